set_option maxRecDepth 20000 in
theorem c_X11_sample (l : Launch) (E : uE) (a1 : Int32) (σ : uS) (r : Int32) (σr : uS) (h : F_X11_sample a1 σ = some (.inl r, σr)) : CtI l E yX11_sample cX11_sample 2 (some .int) 7 102 [.ref (E.2.1 0), .int a1] σ r σr := by
  refine enterI 0 [some (.ref (E.2.1 0)), some (.int a1)] (by decide +kernel) rfl (Nat.le_of_ble_eq_true rfl) (fun o K hnL hC hab hR => ?_)
  have hC : Cx E K RX11 cX11_sample (some .int) 7 102 := hC
  have hN : ∀ k, k < 2 → k < K.2.2.2.2.2 := fun k hk => hnL ▸ hk
  delta F_X11_sample at h
  refine g_aload_n (pc := 0) hC dX11_sample_0 rfl ?_
  refine fg_X11_10_0 (pc := 1) hC dX11_sample_1 ?_
  refine g_iload_n (pc := 4) hC dX11_sample_4 rfl ?_
  obtain ⟨v1, hc, h⟩ := cp_e h
  refine g_callVi (pc := 5) (As := [.int a1]) (rest := []) hC (c_X7_has l E a1 σ v1 hc) mi_X7_has mv_X7_has ob_1 rfl rfl lk_X11_125 rfl rfl (Nat.le_of_ble_eq_true rfl) ⟨by decide, by decide⟩ hab dX11_sample_5 ?_
  by_cases c2 : v1 = 0
  · replace h := it_t c2 h
    exact th_rt h
  · replace h := it_f c2 h
    refine g_callSv (pc := 8) (As := [.int v1]) (rest := []) hC (c_X11_need l E v1 σ c2) mi_X11_need ms_X11_need lk_X11_139 rfl rfl (Nat.le_of_ble_eq_true rfl) ⟨by decide, by decide⟩ hab dX11_sample_8 ?_
    refine g_aload_n (pc := 11) hC dX11_sample_11 rfl ?_
    refine fg_X11_10_0 (pc := 12) hC dX11_sample_12 ?_
    refine g_iload_n (pc := 15) hC dX11_sample_15 rfl ?_
    obtain ⟨v3, hc, h⟩ := cp_e h
    refine g_callVi (pc := 16) (As := [.int a1]) (rest := []) hC (c_X7_at l E a1 σ v3 hc) mi_X7_at mv_X7_at ob_1 rfl rfl lk_X11_128 rfl rfl (Nat.le_of_ble_eq_true rfl) ⟨by decide, by decide⟩ hab dX11_sample_16 ?_
    exact g_rett (pc := 19) hC h hR dX11_sample_19
set_option maxRecDepth 20000 in
theorem x_X11_sample (l : Launch) (hl9 : l.stackTraces = false) (E : uE) (a1 : Int32) (σ : uS) (kx : Nat) (σr : uS) (h : F_X11_sample a1 σ = some (.inr kx, σr)) : CtX l E yX11_sample cX11_sample 2 7 102 [.ref (E.2.1 0), .int a1] σ kx σr := by
  refine enterX 0 [some (.ref (E.2.1 0)), some (.int a1)] (by decide +kernel) rfl (Nat.le_of_ble_eq_true rfl) (fun o K hnL hC hab h6 hXt hR => ?_)
  have hC : Cx E K RX11 cX11_sample (some .int) 7 102 := hC
  have hN : ∀ k, k < 2 → k < K.2.2.2.2.2 := fun k hk => hnL ▸ hk
  delta F_X11_sample at h
  refine g_aload_n (pc := 0) hC dX11_sample_0 rfl ?_
  refine fg_X11_10_0 (pc := 1) hC dX11_sample_1 ?_
  refine g_iload_n (pc := 4) hC dX11_sample_4 rfl ?_
  obtain ⟨v1, hc, h⟩ := cp_e h
  refine g_callVi (pc := 5) (As := [.int a1]) (rest := []) hC (c_X7_has l E a1 σ v1 hc) mi_X7_has mv_X7_has ob_1 rfl rfl lk_X11_125 rfl rfl (Nat.le_of_ble_eq_true rfl) ⟨by decide, by decide⟩ hab dX11_sample_5 ?_
  by_cases c2 : v1 = 0
  · replace h := it_t c2 h
    exact g_thr (pc := 8) (As := [.int v1]) (rest := []) hC (x_X11_need l hl9 E v1 σ c2) mi_X11_need ms_X11_need lk_X11_139 rfl rfl (Nat.le_of_ble_eq_true rfl) ⟨by decide, by decide⟩ h6 hXt h hR dX11_sample_8
  · replace h := it_f c2 h
    refine g_callSv (pc := 8) (As := [.int v1]) (rest := []) hC (c_X11_need l E v1 σ c2) mi_X11_need ms_X11_need lk_X11_139 rfl rfl (Nat.le_of_ble_eq_true rfl) ⟨by decide, by decide⟩ hab dX11_sample_8 ?_
    refine g_aload_n (pc := 11) hC dX11_sample_11 rfl ?_
    refine fg_X11_10_0 (pc := 12) hC dX11_sample_12 ?_
    refine g_iload_n (pc := 15) hC dX11_sample_15 rfl ?_
    obtain ⟨v3, hc, h⟩ := cp_e h
    refine g_callVi (pc := 16) (As := [.int a1]) (rest := []) hC (c_X7_at l E a1 σ v3 hc) mi_X7_at mv_X7_at ob_1 rfl rfl lk_X11_128 rfl rfl (Nat.le_of_ble_eq_true rfl) ⟨by decide, by decide⟩ hab dX11_sample_16 ?_
    exact th_tr h
set_option maxRecDepth 20000 in
theorem c_X11_count (l : Launch) (E : uE) (a1 : Int32) (σ : uS) (r : Int32) (σr : uS) (h : F_X11_count a1 σ = some (.inl r, σr)) : CtI l E yX11_count cX11_count 2 (some .int) 7 102 [.ref (E.2.1 0), .int a1] σ r σr := by
  refine enterI 0 [some (.ref (E.2.1 0)), some (.int a1)] (by decide +kernel) rfl (Nat.le_of_ble_eq_true rfl) (fun o K hnL hC hab hR => ?_)
  have hC : Cx E K RX11 cX11_count (some .int) 7 102 := hC
  have hN : ∀ k, k < 2 → k < K.2.2.2.2.2 := fun k hk => hnL ▸ hk
  delta F_X11_count at h
  refine g_iload_n (pc := 0) hC dX11_count_0 rfl ?_
  have hJ15 : ∀ (v3 : Int32), J_X11_count_2 a1 σ v3 = some (.inl r, σr) → Gd l E K 0 0 o σ 15 [some (.ref (E.2.1 0)), some (.int a1)] [.int v3] := by
    intro v3 h
    delta J_X11_count_2 at h
    by_cases c4 : v3 = 0
    · replace h := it_t c4 h
      exact th_rt h
    · replace h := it_f c4 h
      refine g_callSv (pc := 15) (As := [.int v3]) (rest := []) hC (c_X11_need l E v3 σ c4) mi_X11_need ms_X11_need lk_X11_139 rfl rfl (Nat.le_of_ble_eq_true rfl) ⟨by decide, by decide⟩ hab dX11_count_15 ?_
      refine g_iload_n (pc := 18) hC dX11_count_18 rfl ?_
      by_cases c5 : a1 = 0
      · replace h := it_t c5 h
        refine g_look (tgt := 60) (off := 41) (pc := 19) hC dX11_count_19 rfl (by rw [c5]; rfl) (by decide) ?_
        refine g_aload_n (pc := 60) hC dX11_count_60 rfl ?_
        refine fg_X11_10_0 (pc := 61) hC dX11_count_61 ?_
        obtain ⟨v6, hc, h⟩ := cp_e h
        refine g_callVi (pc := 64) (As := []) (rest := []) hC (c_X7_size l E σ v6 hc) mi_X7_size mv_X7_size ob_1 rfl rfl lk_X11_105 rfl rfl (Nat.le_of_ble_eq_true rfl) ⟨by decide, by decide⟩ hab dX11_count_64 ?_
        exact g_rett (pc := 67) hC h hR dX11_count_67
      · replace h := it_f c5 h
        by_cases c7 : a1 = 1
        · replace h := it_t c7 h
          refine g_look (tgt := 68) (off := 49) (pc := 19) hC dX11_count_19 rfl (by rw [c7]; rfl) (by decide) ?_
          refine g_aload_n (pc := 68) hC dX11_count_68 rfl ?_
          refine fg_X11_28_0 (pc := 69) hC dX11_count_69 ?_
          obtain ⟨v8, hc, h⟩ := cp_e h
          refine g_callVi (pc := 72) (As := []) (rest := []) hC (c_X2_size l E σ v8 hc) mi_X2_size mv_X2_size ob_6 rfl rfl lk_X11_157 rfl rfl (Nat.le_of_ble_eq_true rfl) ⟨by decide, by decide⟩ hab dX11_count_72 ?_
          exact g_rett (pc := 75) hC h hR dX11_count_75
        · replace h := it_f c7 h
          by_cases c9 : a1 = 16
          · replace h := it_t c9 h
            refine g_look (tgt := 76) (off := 57) (pc := 19) hC dX11_count_19 rfl (by rw [c9]; rfl) (by decide) ?_
            refine g_aload_n (pc := 76) hC dX11_count_76 rfl ?_
            refine fg_X11_10_0 (pc := 77) hC dX11_count_77 ?_
            obtain ⟨v10, hc, h⟩ := cp_e h
            refine g_callVi (pc := 80) (As := []) (rest := []) hC (c_X7_tapeSize l E σ v10 hc) mi_X7_tapeSize mv_X7_tapeSize ob_1 rfl rfl lk_X11_93 rfl rfl (Nat.le_of_ble_eq_true rfl) ⟨by decide, by decide⟩ hab dX11_count_80 ?_
            exact g_rett (pc := 83) hC h hR dX11_count_83
          · replace h := it_f c9 h
            by_cases c11 : a1 = 17
            · replace h := it_t c11 h
              refine g_look (tgt := 84) (off := 65) (pc := 19) hC dX11_count_19 rfl (by rw [c11]; rfl) (by decide) ?_
              refine g_aload_n (pc := 84) hC dX11_count_84 rfl ?_
              refine fg_X11_89_0 (pc := 85) hC dX11_count_85 ?_
              obtain ⟨v12, hc, h⟩ := cp_e h
              refine g_callVi (pc := 88) (As := []) (rest := []) hC (c_X10_size l E σ v12 hc) mi_X10_size mv_X10_size ob_51 rfl rfl lk_X11_158 rfl rfl (Nat.le_of_ble_eq_true rfl) ⟨by decide, by decide⟩ hab dX11_count_88 ?_
              exact g_rett (pc := 91) hC h hR dX11_count_91
            · replace h := it_f c11 h
              have q0 := sw_ne (n := 0) c5 rfl
              have q1 := sw_ne (n := 1) c7 rfl
              have q2 := sw_ne (n := 16) c9 rfl
              have q3 := sw_ne (n := 17) c11 rfl
              refine g_look (tgt := 92) (off := 73) (pc := 19) hC dX11_count_19 rfl (by simp [Op.lookupswitch.offset, q0, q0.symm, q1, q1.symm, q2, q2.symm, q3, q3.symm]) (by decide) ?_
              refine g_aload_n (pc := 92) hC dX11_count_92 rfl ?_
              refine fg_X11_19_0 (pc := 93) hC dX11_count_93 ?_
              refine g_iload_n (pc := 96) hC dX11_count_96 rfl ?_
              obtain ⟨v13, hc, h⟩ := cp_e h
              refine g_callVi (pc := 97) (As := [.int a1]) (rest := []) hC (c_X0_of l E a1 σ v13 hc) mi_X0_of mv_X0_of ob_4 rfl rfl lk_X11_147 rfl rfl (Nat.le_of_ble_eq_true rfl) ⟨by decide, by decide⟩ hab dX11_count_97 ?_
              exact g_rett (pc := 100) hC h hR dX11_count_100
  have hJ14 : J_X11_count_1 a1 σ = some (.inl r, σr) → Gd l E K 0 0 o σ 14 [some (.ref (E.2.1 0)), some (.int a1)] [] := by
    intro h
    delta J_X11_count_1 at h
    refine g_iconst (pc := 14) hC ki_0 dX11_count_14 ?_
    exact hJ15 0 h
  refine g_if_lt (tgt := 14) (pc := 1) hC dX11_count_1 (by decide) (fun c1 => ?_) (fun c1 => ?_)
  · replace h := it_t c1 h
    exact hJ14 h
  · replace h := it_f c1 h
    refine g_iload_n (pc := 4) hC dX11_count_4 rfl ?_
    refine g_bipush (pc := 5) hC kb_17 dX11_count_5 ?_
    refine g_icmp_gt (tgt := 14) (pc := 7) hC dX11_count_7 (by decide) (fun c2 => ?_) (fun c2 => ?_)
    · replace h := it_t c2 h
      exact hJ14 h
    · replace h := it_f c2 h
      refine g_iconst (pc := 10) hC ki_1 dX11_count_10 ?_
      refine g_goto (tgt := 15) (pc := 11) hC dX11_count_11 (by decide) ?_
      exact hJ15 1 h
set_option maxRecDepth 20000 in
theorem x_X11_count (l : Launch) (hl9 : l.stackTraces = false) (E : uE) (a1 : Int32) (σ : uS) (kx : Nat) (σr : uS) (h : F_X11_count a1 σ = some (.inr kx, σr)) : CtX l E yX11_count cX11_count 2 7 102 [.ref (E.2.1 0), .int a1] σ kx σr := by
  refine enterX 0 [some (.ref (E.2.1 0)), some (.int a1)] (by decide +kernel) rfl (Nat.le_of_ble_eq_true rfl) (fun o K hnL hC hab h6 hXt hR => ?_)
  have hC : Cx E K RX11 cX11_count (some .int) 7 102 := hC
  have hN : ∀ k, k < 2 → k < K.2.2.2.2.2 := fun k hk => hnL ▸ hk
  delta F_X11_count at h
  refine g_iload_n (pc := 0) hC dX11_count_0 rfl ?_
  have hJ15 : ∀ (v3 : Int32), J_X11_count_2 a1 σ v3 = some (.inr kx, σr) → Gd l E K 0 0 o σ 15 [some (.ref (E.2.1 0)), some (.int a1)] [.int v3] := by
    intro v3 h
    delta J_X11_count_2 at h
    by_cases c4 : v3 = 0
    · replace h := it_t c4 h
      exact g_thr (pc := 15) (As := [.int v3]) (rest := []) hC (x_X11_need l hl9 E v3 σ c4) mi_X11_need ms_X11_need lk_X11_139 rfl rfl (Nat.le_of_ble_eq_true rfl) ⟨by decide, by decide⟩ h6 hXt h hR dX11_count_15
    · replace h := it_f c4 h
      refine g_callSv (pc := 15) (As := [.int v3]) (rest := []) hC (c_X11_need l E v3 σ c4) mi_X11_need ms_X11_need lk_X11_139 rfl rfl (Nat.le_of_ble_eq_true rfl) ⟨by decide, by decide⟩ hab dX11_count_15 ?_
      refine g_iload_n (pc := 18) hC dX11_count_18 rfl ?_
      by_cases c5 : a1 = 0
      · replace h := it_t c5 h
        refine g_look (tgt := 60) (off := 41) (pc := 19) hC dX11_count_19 rfl (by rw [c5]; rfl) (by decide) ?_
        refine g_aload_n (pc := 60) hC dX11_count_60 rfl ?_
        refine fg_X11_10_0 (pc := 61) hC dX11_count_61 ?_
        obtain ⟨v6, hc, h⟩ := cp_e h
        refine g_callVi (pc := 64) (As := []) (rest := []) hC (c_X7_size l E σ v6 hc) mi_X7_size mv_X7_size ob_1 rfl rfl lk_X11_105 rfl rfl (Nat.le_of_ble_eq_true rfl) ⟨by decide, by decide⟩ hab dX11_count_64 ?_
        exact th_tr h
      · replace h := it_f c5 h
        by_cases c7 : a1 = 1
        · replace h := it_t c7 h
          refine g_look (tgt := 68) (off := 49) (pc := 19) hC dX11_count_19 rfl (by rw [c7]; rfl) (by decide) ?_
          refine g_aload_n (pc := 68) hC dX11_count_68 rfl ?_
          refine fg_X11_28_0 (pc := 69) hC dX11_count_69 ?_
          obtain ⟨v8, hc, h⟩ := cp_e h
          refine g_callVi (pc := 72) (As := []) (rest := []) hC (c_X2_size l E σ v8 hc) mi_X2_size mv_X2_size ob_6 rfl rfl lk_X11_157 rfl rfl (Nat.le_of_ble_eq_true rfl) ⟨by decide, by decide⟩ hab dX11_count_72 ?_
          exact th_tr h
        · replace h := it_f c7 h
          by_cases c9 : a1 = 16
          · replace h := it_t c9 h
            refine g_look (tgt := 76) (off := 57) (pc := 19) hC dX11_count_19 rfl (by rw [c9]; rfl) (by decide) ?_
            refine g_aload_n (pc := 76) hC dX11_count_76 rfl ?_
            refine fg_X11_10_0 (pc := 77) hC dX11_count_77 ?_
            obtain ⟨v10, hc, h⟩ := cp_e h
            refine g_callVi (pc := 80) (As := []) (rest := []) hC (c_X7_tapeSize l E σ v10 hc) mi_X7_tapeSize mv_X7_tapeSize ob_1 rfl rfl lk_X11_93 rfl rfl (Nat.le_of_ble_eq_true rfl) ⟨by decide, by decide⟩ hab dX11_count_80 ?_
            exact th_tr h
          · replace h := it_f c9 h
            by_cases c11 : a1 = 17
            · replace h := it_t c11 h
              refine g_look (tgt := 84) (off := 65) (pc := 19) hC dX11_count_19 rfl (by rw [c11]; rfl) (by decide) ?_
              refine g_aload_n (pc := 84) hC dX11_count_84 rfl ?_
              refine fg_X11_89_0 (pc := 85) hC dX11_count_85 ?_
              obtain ⟨v12, hc, h⟩ := cp_e h
              refine g_callVi (pc := 88) (As := []) (rest := []) hC (c_X10_size l E σ v12 hc) mi_X10_size mv_X10_size ob_51 rfl rfl lk_X11_158 rfl rfl (Nat.le_of_ble_eq_true rfl) ⟨by decide, by decide⟩ hab dX11_count_88 ?_
              exact th_tr h
            · replace h := it_f c11 h
              have q0 := sw_ne (n := 0) c5 rfl
              have q1 := sw_ne (n := 1) c7 rfl
              have q2 := sw_ne (n := 16) c9 rfl
              have q3 := sw_ne (n := 17) c11 rfl
              refine g_look (tgt := 92) (off := 73) (pc := 19) hC dX11_count_19 rfl (by simp [Op.lookupswitch.offset, q0, q0.symm, q1, q1.symm, q2, q2.symm, q3, q3.symm]) (by decide) ?_
              refine g_aload_n (pc := 92) hC dX11_count_92 rfl ?_
              refine fg_X11_19_0 (pc := 93) hC dX11_count_93 ?_
              refine g_iload_n (pc := 96) hC dX11_count_96 rfl ?_
              obtain ⟨v13, hc, h⟩ := cp_e h
              refine g_callVi (pc := 97) (As := [.int a1]) (rest := []) hC (c_X0_of l E a1 σ v13 hc) mi_X0_of mv_X0_of ob_4 rfl rfl lk_X11_147 rfl rfl (Nat.le_of_ble_eq_true rfl) ⟨by decide, by decide⟩ hab dX11_count_97 ?_
              exact th_tr h
  have hJ14 : J_X11_count_1 a1 σ = some (.inr kx, σr) → Gd l E K 0 0 o σ 14 [some (.ref (E.2.1 0)), some (.int a1)] [] := by
    intro h
    delta J_X11_count_1 at h
    refine g_iconst (pc := 14) hC ki_0 dX11_count_14 ?_
    exact hJ15 0 h
  refine g_if_lt (tgt := 14) (pc := 1) hC dX11_count_1 (by decide) (fun c1 => ?_) (fun c1 => ?_)
  · replace h := it_t c1 h
    exact hJ14 h
  · replace h := it_f c1 h
    refine g_iload_n (pc := 4) hC dX11_count_4 rfl ?_
    refine g_bipush (pc := 5) hC kb_17 dX11_count_5 ?_
    refine g_icmp_gt (tgt := 14) (pc := 7) hC dX11_count_7 (by decide) (fun c2 => ?_) (fun c2 => ?_)
    · replace h := it_t c2 h
      exact hJ14 h
    · replace h := it_f c2 h
      refine g_iconst (pc := 10) hC ki_1 dX11_count_10 ?_
      refine g_goto (tgt := 15) (pc := 11) hC dX11_count_11 (by decide) ?_
      exact hJ15 1 h
set_option maxRecDepth 20000 in
theorem c_X11_diff (l : Launch) (E : uE) (a1 : Int32) (a2 : Int32) (σ : uS) (r : Int32) (σr : uS) (h : F_X11_diff a1 a2 σ = some (.inl r, σr)) : CtI l E yX11_diff cX11_diff 3 (some .int) 7 102 [.ref (E.2.1 0), .int a1, .int a2] σ r σr := by
  refine enterI 0 [some (.ref (E.2.1 0)), some (.int a1), some (.int a2)] (by decide +kernel) rfl (Nat.le_of_ble_eq_true rfl) (fun o K hnL hC hab hR => ?_)
  have hC : Cx E K RX11 cX11_diff (some .int) 7 102 := hC
  have hN : ∀ k, k < 3 → k < K.2.2.2.2.2 := fun k hk => hnL ▸ hk
  delta F_X11_diff at h
  refine g_aload_n (pc := 0) hC dX11_diff_0 rfl ?_
  refine fg_X11_28_0 (pc := 1) hC dX11_diff_1 ?_
  refine g_iload_n (pc := 4) hC dX11_diff_4 rfl ?_
  obtain ⟨v1, hc, h⟩ := cp_e h
  refine g_callVi (pc := 5) (As := [.int a1]) (rest := []) hC (c_X2_has l E a1 σ v1 hc) mi_X2_has mv_X2_has ob_6 rfl rfl lk_X11_159 rfl rfl (Nat.le_of_ble_eq_true rfl) ⟨by decide, by decide⟩ hab dX11_diff_5 ?_
  have hJ24 : ∀ (v5 : Int32), J_X11_diff_2 a1 a2 σ v5 = some (.inl r, σr) → Gd l E K 0 0 o σ 24 [some (.ref (E.2.1 0)), some (.int a1), some (.int a2)] [.int v5] := by
    intro v5 h
    delta J_X11_diff_2 at h
    by_cases c6 : v5 = 0
    · replace h := it_t c6 h
      exact th_rt h
    · replace h := it_f c6 h
      refine g_callSv (pc := 24) (As := [.int v5]) (rest := []) hC (c_X11_need l E v5 σ c6) mi_X11_need ms_X11_need lk_X11_139 rfl rfl (Nat.le_of_ble_eq_true rfl) ⟨by decide, by decide⟩ hab dX11_diff_24 ?_
      refine g_aload_n (pc := 27) hC dX11_diff_27 rfl ?_
      refine fg_X11_28_0 (pc := 28) hC dX11_diff_28 ?_
      refine g_iload_n (pc := 31) hC dX11_diff_31 rfl ?_
      obtain ⟨σ7, hc, h⟩ := cp_e h
      refine g_callVv (pc := 32) (As := [.int a1]) (rest := []) hC (c_X2_measure l E a1 σ σ7 hc) mi_X2_measure mv_X2_measure ob_6 rfl rfl lk_X11_163 rfl rfl (Nat.le_of_ble_eq_true rfl) ⟨by decide, by decide⟩ hab dX11_diff_32 ?_
      refine g_aload_n (pc := 35) hC dX11_diff_35 rfl ?_
      refine fg_X11_28_0 (pc := 36) hC dX11_diff_36 ?_
      refine g_iload_n (pc := 39) hC dX11_diff_39 rfl ?_
      refine g_iload_n (pc := 40) hC dX11_diff_40 rfl ?_
      obtain ⟨v8, hc, h⟩ := cp_e h
      refine g_callVi (pc := 41) (As := [.int a1, .int a2]) (rest := []) hC (c_X2_diffAt l E a1 a2 σ7 v8 hc) mi_X2_diffAt mv_X2_diffAt ob_6 rfl rfl lk_X11_166 rfl rfl (Nat.le_of_ble_eq_true rfl) ⟨by decide, by decide⟩ hab dX11_diff_41 ?_
      exact g_rett (pc := 44) hC h hR dX11_diff_44
  have hJ23 : J_X11_diff_1 a1 a2 σ = some (.inl r, σr) → Gd l E K 0 0 o σ 23 [some (.ref (E.2.1 0)), some (.int a1), some (.int a2)] [] := by
    intro h
    delta J_X11_diff_1 at h
    refine g_iconst (pc := 23) hC ki_0 dX11_diff_23 ?_
    exact hJ24 0 h
  refine g_if_eq (tgt := 23) (pc := 8) hC dX11_diff_8 (by decide) (fun c2 => ?_) (fun c2 => ?_)
  · replace h := it_t c2 h
    exact hJ23 h
  · replace h := it_f c2 h
    refine g_aload_n (pc := 11) hC dX11_diff_11 rfl ?_
    refine g_iload_n (pc := 12) hC dX11_diff_12 rfl ?_
    obtain ⟨v3, hc, h⟩ := cp_e h
    refine g_callVi (pc := 13) (As := [.int a2]) (rest := []) hC (c_X11_isLag l E a2 σ v3 hc) mi_X11_isLag mv_X11_isLag ob_0 rfl rfl lk_X11_160 rfl rfl (Nat.le_of_ble_eq_true rfl) ⟨by decide, by decide⟩ hab dX11_diff_13 ?_
    refine g_if_eq (tgt := 23) (pc := 16) hC dX11_diff_16 (by decide) (fun c4 => ?_) (fun c4 => ?_)
    · replace h := it_t c4 h
      exact hJ23 h
    · replace h := it_f c4 h
      refine g_iconst (pc := 19) hC ki_1 dX11_diff_19 ?_
      refine g_goto (tgt := 24) (pc := 20) hC dX11_diff_20 (by decide) ?_
      exact hJ24 1 h
set_option maxRecDepth 20000 in
theorem x_X11_diff (l : Launch) (hl9 : l.stackTraces = false) (E : uE) (a1 : Int32) (a2 : Int32) (σ : uS) (kx : Nat) (σr : uS) (h : F_X11_diff a1 a2 σ = some (.inr kx, σr)) : CtX l E yX11_diff cX11_diff 3 7 102 [.ref (E.2.1 0), .int a1, .int a2] σ kx σr := by
  refine enterX 0 [some (.ref (E.2.1 0)), some (.int a1), some (.int a2)] (by decide +kernel) rfl (Nat.le_of_ble_eq_true rfl) (fun o K hnL hC hab h6 hXt hR => ?_)
  have hC : Cx E K RX11 cX11_diff (some .int) 7 102 := hC
  have hN : ∀ k, k < 3 → k < K.2.2.2.2.2 := fun k hk => hnL ▸ hk
  delta F_X11_diff at h
  refine g_aload_n (pc := 0) hC dX11_diff_0 rfl ?_
  refine fg_X11_28_0 (pc := 1) hC dX11_diff_1 ?_
  refine g_iload_n (pc := 4) hC dX11_diff_4 rfl ?_
  obtain ⟨v1, hc, h⟩ := cp_e h
  refine g_callVi (pc := 5) (As := [.int a1]) (rest := []) hC (c_X2_has l E a1 σ v1 hc) mi_X2_has mv_X2_has ob_6 rfl rfl lk_X11_159 rfl rfl (Nat.le_of_ble_eq_true rfl) ⟨by decide, by decide⟩ hab dX11_diff_5 ?_
  have hJ24 : ∀ (v5 : Int32), J_X11_diff_2 a1 a2 σ v5 = some (.inr kx, σr) → Gd l E K 0 0 o σ 24 [some (.ref (E.2.1 0)), some (.int a1), some (.int a2)] [.int v5] := by
    intro v5 h
    delta J_X11_diff_2 at h
    by_cases c6 : v5 = 0
    · replace h := it_t c6 h
      exact g_thr (pc := 24) (As := [.int v5]) (rest := []) hC (x_X11_need l hl9 E v5 σ c6) mi_X11_need ms_X11_need lk_X11_139 rfl rfl (Nat.le_of_ble_eq_true rfl) ⟨by decide, by decide⟩ h6 hXt h hR dX11_diff_24
    · replace h := it_f c6 h
      refine g_callSv (pc := 24) (As := [.int v5]) (rest := []) hC (c_X11_need l E v5 σ c6) mi_X11_need ms_X11_need lk_X11_139 rfl rfl (Nat.le_of_ble_eq_true rfl) ⟨by decide, by decide⟩ hab dX11_diff_24 ?_
      refine g_aload_n (pc := 27) hC dX11_diff_27 rfl ?_
      refine fg_X11_28_0 (pc := 28) hC dX11_diff_28 ?_
      refine g_iload_n (pc := 31) hC dX11_diff_31 rfl ?_
      obtain ⟨σ7, hc, h⟩ := cp_e h
      refine g_callVv (pc := 32) (As := [.int a1]) (rest := []) hC (c_X2_measure l E a1 σ σ7 hc) mi_X2_measure mv_X2_measure ob_6 rfl rfl lk_X11_163 rfl rfl (Nat.le_of_ble_eq_true rfl) ⟨by decide, by decide⟩ hab dX11_diff_32 ?_
      refine g_aload_n (pc := 35) hC dX11_diff_35 rfl ?_
      refine fg_X11_28_0 (pc := 36) hC dX11_diff_36 ?_
      refine g_iload_n (pc := 39) hC dX11_diff_39 rfl ?_
      refine g_iload_n (pc := 40) hC dX11_diff_40 rfl ?_
      obtain ⟨v8, hc, h⟩ := cp_e h
      refine g_callVi (pc := 41) (As := [.int a1, .int a2]) (rest := []) hC (c_X2_diffAt l E a1 a2 σ7 v8 hc) mi_X2_diffAt mv_X2_diffAt ob_6 rfl rfl lk_X11_166 rfl rfl (Nat.le_of_ble_eq_true rfl) ⟨by decide, by decide⟩ hab dX11_diff_41 ?_
      exact th_tr h
  have hJ23 : J_X11_diff_1 a1 a2 σ = some (.inr kx, σr) → Gd l E K 0 0 o σ 23 [some (.ref (E.2.1 0)), some (.int a1), some (.int a2)] [] := by
    intro h
    delta J_X11_diff_1 at h
    refine g_iconst (pc := 23) hC ki_0 dX11_diff_23 ?_
    exact hJ24 0 h
  refine g_if_eq (tgt := 23) (pc := 8) hC dX11_diff_8 (by decide) (fun c2 => ?_) (fun c2 => ?_)
  · replace h := it_t c2 h
    exact hJ23 h
  · replace h := it_f c2 h
    refine g_aload_n (pc := 11) hC dX11_diff_11 rfl ?_
    refine g_iload_n (pc := 12) hC dX11_diff_12 rfl ?_
    obtain ⟨v3, hc, h⟩ := cp_e h
    refine g_callVi (pc := 13) (As := [.int a2]) (rest := []) hC (c_X11_isLag l E a2 σ v3 hc) mi_X11_isLag mv_X11_isLag ob_0 rfl rfl lk_X11_160 rfl rfl (Nat.le_of_ble_eq_true rfl) ⟨by decide, by decide⟩ hab dX11_diff_13 ?_
    refine g_if_eq (tgt := 23) (pc := 16) hC dX11_diff_16 (by decide) (fun c4 => ?_) (fun c4 => ?_)
    · replace h := it_t c4 h
      exact hJ23 h
    · replace h := it_f c4 h
      refine g_iconst (pc := 19) hC ki_1 dX11_diff_19 ?_
      refine g_goto (tgt := 24) (pc := 20) hC dX11_diff_20 (by decide) ?_
      exact hJ24 1 h
set_option maxRecDepth 20000 in
theorem c_X11_rel (l : Launch) (E : uE) (a1 : Int32) (a2 : Int32) (σ : uS) (r : Int32) (σr : uS) (h : F_X11_rel a1 a2 σ = some (.inl r, σr)) : CtI l E yX11_rel cX11_rel 3 (some .int) 7 102 [.ref (E.2.1 0), .int a1, .int a2] σ r σr := by
  refine enterI 0 [some (.ref (E.2.1 0)), some (.int a1), some (.int a2)] (by decide +kernel) rfl (Nat.le_of_ble_eq_true rfl) (fun o K hnL hC hab hR => ?_)
  have hC : Cx E K RX11 cX11_rel (some .int) 7 102 := hC
  have hN : ∀ k, k < 3 → k < K.2.2.2.2.2 := fun k hk => hnL ▸ hk
  delta F_X11_rel at h
  refine g_aload_n (pc := 0) hC dX11_rel_0 rfl ?_
  refine fg_X11_28_0 (pc := 1) hC dX11_rel_1 ?_
  refine g_iload_n (pc := 4) hC dX11_rel_4 rfl ?_
  obtain ⟨v1, hc, h⟩ := cp_e h
  refine g_callVi (pc := 5) (As := [.int a1]) (rest := []) hC (c_X2_has l E a1 σ v1 hc) mi_X2_has mv_X2_has ob_6 rfl rfl lk_X11_159 rfl rfl (Nat.le_of_ble_eq_true rfl) ⟨by decide, by decide⟩ hab dX11_rel_5 ?_
  have hJ24 : ∀ (v5 : Int32), J_X11_rel_2 a1 a2 σ v5 = some (.inl r, σr) → Gd l E K 0 0 o σ 24 [some (.ref (E.2.1 0)), some (.int a1), some (.int a2)] [.int v5] := by
    intro v5 h
    delta J_X11_rel_2 at h
    by_cases c6 : v5 = 0
    · replace h := it_t c6 h
      exact th_rt h
    · replace h := it_f c6 h
      refine g_callSv (pc := 24) (As := [.int v5]) (rest := []) hC (c_X11_need l E v5 σ c6) mi_X11_need ms_X11_need lk_X11_139 rfl rfl (Nat.le_of_ble_eq_true rfl) ⟨by decide, by decide⟩ hab dX11_rel_24 ?_
      refine g_aload_n (pc := 27) hC dX11_rel_27 rfl ?_
      refine fg_X11_28_0 (pc := 28) hC dX11_rel_28 ?_
      refine g_iload_n (pc := 31) hC dX11_rel_31 rfl ?_
      obtain ⟨σ7, hc, h⟩ := cp_e h
      refine g_callVv (pc := 32) (As := [.int a1]) (rest := []) hC (c_X2_measure l E a1 σ σ7 hc) mi_X2_measure mv_X2_measure ob_6 rfl rfl lk_X11_163 rfl rfl (Nat.le_of_ble_eq_true rfl) ⟨by decide, by decide⟩ hab dX11_rel_32 ?_
      refine g_aload_n (pc := 35) hC dX11_rel_35 rfl ?_
      refine fg_X11_28_0 (pc := 36) hC dX11_rel_36 ?_
      refine g_iload_n (pc := 39) hC dX11_rel_39 rfl ?_
      refine g_iload_n (pc := 40) hC dX11_rel_40 rfl ?_
      obtain ⟨v8, hc, h⟩ := cp_e h
      refine g_callVi (pc := 41) (As := [.int a1, .int a2]) (rest := []) hC (c_X2_relAt l E a1 a2 σ7 v8 hc) mi_X2_relAt mv_X2_relAt ob_6 rfl rfl lk_X11_169 rfl rfl (Nat.le_of_ble_eq_true rfl) ⟨by decide, by decide⟩ hab dX11_rel_41 ?_
      exact g_rett (pc := 44) hC h hR dX11_rel_44
  have hJ23 : J_X11_rel_1 a1 a2 σ = some (.inl r, σr) → Gd l E K 0 0 o σ 23 [some (.ref (E.2.1 0)), some (.int a1), some (.int a2)] [] := by
    intro h
    delta J_X11_rel_1 at h
    refine g_iconst (pc := 23) hC ki_0 dX11_rel_23 ?_
    exact hJ24 0 h
  refine g_if_eq (tgt := 23) (pc := 8) hC dX11_rel_8 (by decide) (fun c2 => ?_) (fun c2 => ?_)
  · replace h := it_t c2 h
    exact hJ23 h
  · replace h := it_f c2 h
    refine g_aload_n (pc := 11) hC dX11_rel_11 rfl ?_
    refine g_iload_n (pc := 12) hC dX11_rel_12 rfl ?_
    obtain ⟨v3, hc, h⟩ := cp_e h
    refine g_callVi (pc := 13) (As := [.int a2]) (rest := []) hC (c_X11_isLag l E a2 σ v3 hc) mi_X11_isLag mv_X11_isLag ob_0 rfl rfl lk_X11_160 rfl rfl (Nat.le_of_ble_eq_true rfl) ⟨by decide, by decide⟩ hab dX11_rel_13 ?_
    refine g_if_eq (tgt := 23) (pc := 16) hC dX11_rel_16 (by decide) (fun c4 => ?_) (fun c4 => ?_)
    · replace h := it_t c4 h
      exact hJ23 h
    · replace h := it_f c4 h
      refine g_iconst (pc := 19) hC ki_1 dX11_rel_19 ?_
      refine g_goto (tgt := 24) (pc := 20) hC dX11_rel_20 (by decide) ?_
      exact hJ24 1 h
set_option maxRecDepth 20000 in
theorem x_X11_rel (l : Launch) (hl9 : l.stackTraces = false) (E : uE) (a1 : Int32) (a2 : Int32) (σ : uS) (kx : Nat) (σr : uS) (h : F_X11_rel a1 a2 σ = some (.inr kx, σr)) : CtX l E yX11_rel cX11_rel 3 7 102 [.ref (E.2.1 0), .int a1, .int a2] σ kx σr := by
  refine enterX 0 [some (.ref (E.2.1 0)), some (.int a1), some (.int a2)] (by decide +kernel) rfl (Nat.le_of_ble_eq_true rfl) (fun o K hnL hC hab h6 hXt hR => ?_)
  have hC : Cx E K RX11 cX11_rel (some .int) 7 102 := hC
  have hN : ∀ k, k < 3 → k < K.2.2.2.2.2 := fun k hk => hnL ▸ hk
  delta F_X11_rel at h
  refine g_aload_n (pc := 0) hC dX11_rel_0 rfl ?_
  refine fg_X11_28_0 (pc := 1) hC dX11_rel_1 ?_
  refine g_iload_n (pc := 4) hC dX11_rel_4 rfl ?_
  obtain ⟨v1, hc, h⟩ := cp_e h
  refine g_callVi (pc := 5) (As := [.int a1]) (rest := []) hC (c_X2_has l E a1 σ v1 hc) mi_X2_has mv_X2_has ob_6 rfl rfl lk_X11_159 rfl rfl (Nat.le_of_ble_eq_true rfl) ⟨by decide, by decide⟩ hab dX11_rel_5 ?_
  have hJ24 : ∀ (v5 : Int32), J_X11_rel_2 a1 a2 σ v5 = some (.inr kx, σr) → Gd l E K 0 0 o σ 24 [some (.ref (E.2.1 0)), some (.int a1), some (.int a2)] [.int v5] := by
    intro v5 h
    delta J_X11_rel_2 at h
    by_cases c6 : v5 = 0
    · replace h := it_t c6 h
      exact g_thr (pc := 24) (As := [.int v5]) (rest := []) hC (x_X11_need l hl9 E v5 σ c6) mi_X11_need ms_X11_need lk_X11_139 rfl rfl (Nat.le_of_ble_eq_true rfl) ⟨by decide, by decide⟩ h6 hXt h hR dX11_rel_24
    · replace h := it_f c6 h
      refine g_callSv (pc := 24) (As := [.int v5]) (rest := []) hC (c_X11_need l E v5 σ c6) mi_X11_need ms_X11_need lk_X11_139 rfl rfl (Nat.le_of_ble_eq_true rfl) ⟨by decide, by decide⟩ hab dX11_rel_24 ?_
      refine g_aload_n (pc := 27) hC dX11_rel_27 rfl ?_
      refine fg_X11_28_0 (pc := 28) hC dX11_rel_28 ?_
      refine g_iload_n (pc := 31) hC dX11_rel_31 rfl ?_
      obtain ⟨σ7, hc, h⟩ := cp_e h
      refine g_callVv (pc := 32) (As := [.int a1]) (rest := []) hC (c_X2_measure l E a1 σ σ7 hc) mi_X2_measure mv_X2_measure ob_6 rfl rfl lk_X11_163 rfl rfl (Nat.le_of_ble_eq_true rfl) ⟨by decide, by decide⟩ hab dX11_rel_32 ?_
      refine g_aload_n (pc := 35) hC dX11_rel_35 rfl ?_
      refine fg_X11_28_0 (pc := 36) hC dX11_rel_36 ?_
      refine g_iload_n (pc := 39) hC dX11_rel_39 rfl ?_
      refine g_iload_n (pc := 40) hC dX11_rel_40 rfl ?_
      obtain ⟨v8, hc, h⟩ := cp_e h
      refine g_callVi (pc := 41) (As := [.int a1, .int a2]) (rest := []) hC (c_X2_relAt l E a1 a2 σ7 v8 hc) mi_X2_relAt mv_X2_relAt ob_6 rfl rfl lk_X11_169 rfl rfl (Nat.le_of_ble_eq_true rfl) ⟨by decide, by decide⟩ hab dX11_rel_41 ?_
      exact th_tr h
  have hJ23 : J_X11_rel_1 a1 a2 σ = some (.inr kx, σr) → Gd l E K 0 0 o σ 23 [some (.ref (E.2.1 0)), some (.int a1), some (.int a2)] [] := by
    intro h
    delta J_X11_rel_1 at h
    refine g_iconst (pc := 23) hC ki_0 dX11_rel_23 ?_
    exact hJ24 0 h
  refine g_if_eq (tgt := 23) (pc := 8) hC dX11_rel_8 (by decide) (fun c2 => ?_) (fun c2 => ?_)
  · replace h := it_t c2 h
    exact hJ23 h
  · replace h := it_f c2 h
    refine g_aload_n (pc := 11) hC dX11_rel_11 rfl ?_
    refine g_iload_n (pc := 12) hC dX11_rel_12 rfl ?_
    obtain ⟨v3, hc, h⟩ := cp_e h
    refine g_callVi (pc := 13) (As := [.int a2]) (rest := []) hC (c_X11_isLag l E a2 σ v3 hc) mi_X11_isLag mv_X11_isLag ob_0 rfl rfl lk_X11_160 rfl rfl (Nat.le_of_ble_eq_true rfl) ⟨by decide, by decide⟩ hab dX11_rel_13 ?_
    refine g_if_eq (tgt := 23) (pc := 16) hC dX11_rel_16 (by decide) (fun c4 => ?_) (fun c4 => ?_)
    · replace h := it_t c4 h
      exact hJ23 h
    · replace h := it_f c4 h
      refine g_iconst (pc := 19) hC ki_1 dX11_rel_19 ?_
      refine g_goto (tgt := 24) (pc := 20) hC dX11_rel_20 (by decide) ?_
      exact hJ24 1 h
set_option maxRecDepth 20000 in
theorem c_X11_loud (l : Launch) (E : uE) (a1 : Int32) (σ : uS) (r : Int32) (σr : uS) (h : F_X11_loud a1 σ = some (.inl r, σr)) : CtI l E yX11_loud cX11_loud 2 (some .int) 7 102 [.ref (E.2.1 0), .int a1] σ r σr := by
  refine enterI 0 [some (.ref (E.2.1 0)), some (.int a1)] (by decide +kernel) rfl (Nat.le_of_ble_eq_true rfl) (fun o K hnL hC hab hR => ?_)
  have hC : Cx E K RX11 cX11_loud (some .int) 7 102 := hC
  have hN : ∀ k, k < 2 → k < K.2.2.2.2.2 := fun k hk => hnL ▸ hk
  delta F_X11_loud at h
  refine g_aload_n (pc := 0) hC dX11_loud_0 rfl ?_
  refine fg_X11_28_0 (pc := 1) hC dX11_loud_1 ?_
  refine g_iload_n (pc := 4) hC dX11_loud_4 rfl ?_
  obtain ⟨v1, hc, h⟩ := cp_e h
  refine g_callVi (pc := 5) (As := [.int a1]) (rest := []) hC (c_X2_has l E a1 σ v1 hc) mi_X2_has mv_X2_has ob_6 rfl rfl lk_X11_159 rfl rfl (Nat.le_of_ble_eq_true rfl) ⟨by decide, by decide⟩ hab dX11_loud_5 ?_
  by_cases c2 : v1 = 0
  · replace h := it_t c2 h
    exact th_rt h
  · replace h := it_f c2 h
    refine g_callSv (pc := 8) (As := [.int v1]) (rest := []) hC (c_X11_need l E v1 σ c2) mi_X11_need ms_X11_need lk_X11_139 rfl rfl (Nat.le_of_ble_eq_true rfl) ⟨by decide, by decide⟩ hab dX11_loud_8 ?_
    refine g_aload_n (pc := 11) hC dX11_loud_11 rfl ?_
    refine fg_X11_28_0 (pc := 12) hC dX11_loud_12 ?_
    refine g_iload_n (pc := 15) hC dX11_loud_15 rfl ?_
    obtain ⟨σ3, hc, h⟩ := cp_e h
    refine g_callVv (pc := 16) (As := [.int a1]) (rest := []) hC (c_X2_measure l E a1 σ σ3 hc) mi_X2_measure mv_X2_measure ob_6 rfl rfl lk_X11_163 rfl rfl (Nat.le_of_ble_eq_true rfl) ⟨by decide, by decide⟩ hab dX11_loud_16 ?_
    refine g_aload_n (pc := 19) hC dX11_loud_19 rfl ?_
    refine fg_X11_28_0 (pc := 20) hC dX11_loud_20 ?_
    refine g_iload_n (pc := 23) hC dX11_loud_23 rfl ?_
    obtain ⟨v4, hc, h⟩ := cp_e h
    refine g_callVi (pc := 24) (As := [.int a1]) (rest := []) hC (c_X2_loudAt l E a1 σ3 v4 hc) mi_X2_loudAt mv_X2_loudAt ob_6 rfl rfl lk_X11_172 rfl rfl (Nat.le_of_ble_eq_true rfl) ⟨by decide, by decide⟩ hab dX11_loud_24 ?_
    exact g_rett (pc := 27) hC h hR dX11_loud_27
set_option maxRecDepth 20000 in
theorem x_X11_loud (l : Launch) (hl9 : l.stackTraces = false) (E : uE) (a1 : Int32) (σ : uS) (kx : Nat) (σr : uS) (h : F_X11_loud a1 σ = some (.inr kx, σr)) : CtX l E yX11_loud cX11_loud 2 7 102 [.ref (E.2.1 0), .int a1] σ kx σr := by
  refine enterX 0 [some (.ref (E.2.1 0)), some (.int a1)] (by decide +kernel) rfl (Nat.le_of_ble_eq_true rfl) (fun o K hnL hC hab h6 hXt hR => ?_)
  have hC : Cx E K RX11 cX11_loud (some .int) 7 102 := hC
  have hN : ∀ k, k < 2 → k < K.2.2.2.2.2 := fun k hk => hnL ▸ hk
  delta F_X11_loud at h
  refine g_aload_n (pc := 0) hC dX11_loud_0 rfl ?_
  refine fg_X11_28_0 (pc := 1) hC dX11_loud_1 ?_
  refine g_iload_n (pc := 4) hC dX11_loud_4 rfl ?_
  obtain ⟨v1, hc, h⟩ := cp_e h
  refine g_callVi (pc := 5) (As := [.int a1]) (rest := []) hC (c_X2_has l E a1 σ v1 hc) mi_X2_has mv_X2_has ob_6 rfl rfl lk_X11_159 rfl rfl (Nat.le_of_ble_eq_true rfl) ⟨by decide, by decide⟩ hab dX11_loud_5 ?_
  by_cases c2 : v1 = 0
  · replace h := it_t c2 h
    exact g_thr (pc := 8) (As := [.int v1]) (rest := []) hC (x_X11_need l hl9 E v1 σ c2) mi_X11_need ms_X11_need lk_X11_139 rfl rfl (Nat.le_of_ble_eq_true rfl) ⟨by decide, by decide⟩ h6 hXt h hR dX11_loud_8
  · replace h := it_f c2 h
    refine g_callSv (pc := 8) (As := [.int v1]) (rest := []) hC (c_X11_need l E v1 σ c2) mi_X11_need ms_X11_need lk_X11_139 rfl rfl (Nat.le_of_ble_eq_true rfl) ⟨by decide, by decide⟩ hab dX11_loud_8 ?_
    refine g_aload_n (pc := 11) hC dX11_loud_11 rfl ?_
    refine fg_X11_28_0 (pc := 12) hC dX11_loud_12 ?_
    refine g_iload_n (pc := 15) hC dX11_loud_15 rfl ?_
    obtain ⟨σ3, hc, h⟩ := cp_e h
    refine g_callVv (pc := 16) (As := [.int a1]) (rest := []) hC (c_X2_measure l E a1 σ σ3 hc) mi_X2_measure mv_X2_measure ob_6 rfl rfl lk_X11_163 rfl rfl (Nat.le_of_ble_eq_true rfl) ⟨by decide, by decide⟩ hab dX11_loud_16 ?_
    refine g_aload_n (pc := 19) hC dX11_loud_19 rfl ?_
    refine fg_X11_28_0 (pc := 20) hC dX11_loud_20 ?_
    refine g_iload_n (pc := 23) hC dX11_loud_23 rfl ?_
    obtain ⟨v4, hc, h⟩ := cp_e h
    refine g_callVi (pc := 24) (As := [.int a1]) (rest := []) hC (c_X2_loudAt l E a1 σ3 v4 hc) mi_X2_loudAt mv_X2_loudAt ob_6 rfl rfl lk_X11_172 rfl rfl (Nat.le_of_ble_eq_true rfl) ⟨by decide, by decide⟩ hab dX11_loud_24 ?_
    exact th_tr h
set_option maxRecDepth 20000 in
theorem c_X11_candidates (l : Launch) (E : uE) (a1 : Int32) (σ : uS) (r : Int32) (σr : uS) (h : F_X11_candidates a1 σ = some (.inl r, σr)) : CtI l E yX11_candidates cX11_candidates 2 (some .int) 7 114 [.ref (E.2.1 0), .int a1] σ r σr := by
  refine enterI 0 [some (.ref (E.2.1 0)), some (.int a1)] (by decide +kernel) rfl (Nat.le_of_ble_eq_true rfl) (fun o K hnL hC hab hR => ?_)
  have hC : Cx E K RX11 cX11_candidates (some .int) 7 114 := hC
  have hN : ∀ k, k < 2 → k < K.2.2.2.2.2 := fun k hk => hnL ▸ hk
  delta F_X11_candidates at h
  refine g_aload_n (pc := 0) hC dX11_candidates_0 rfl ?_
  refine fg_X11_28_0 (pc := 1) hC dX11_candidates_1 ?_
  refine g_iload_n (pc := 4) hC dX11_candidates_4 rfl ?_
  obtain ⟨v1, hc, h⟩ := cp_e h
  refine g_callVi (pc := 5) (As := [.int a1]) (rest := []) hC (c_X2_has l E a1 σ v1 hc) mi_X2_has mv_X2_has ob_6 rfl rfl lk_X11_159 rfl rfl (Nat.le_of_ble_eq_true rfl) ⟨by decide, by decide⟩ hab dX11_candidates_5 ?_
  by_cases c2 : v1 = 0
  · replace h := it_t c2 h
    exact th_rt h
  · replace h := it_f c2 h
    refine g_callSv (pc := 8) (As := [.int v1]) (rest := []) hC (c_X11_need l E v1 σ c2) mi_X11_need ms_X11_need lk_X11_139 rfl rfl (Nat.le_of_ble_eq_true rfl) ⟨by decide, by decide⟩ hab dX11_candidates_8 ?_
    refine g_aload_n (pc := 11) hC dX11_candidates_11 rfl ?_
    obtain ⟨σ3, hc, h⟩ := cp_e h
    refine g_callVv (pc := 12) (As := []) (rest := []) hC (c_X11_findPath l E σ σ3 hc) mi_X11_findPath mv_X11_findPath ob_0 rfl rfl lk_X11_175 rfl rfl (Nat.le_of_ble_eq_true rfl) ⟨by decide, by decide⟩ hab dX11_candidates_12 ?_
    refine g_aload_n (pc := 15) hC dX11_candidates_15 rfl ?_
    refine fg_X11_37_0 (pc := 16) hC dX11_candidates_16 ?_
    refine g_iload_n (pc := 19) hC dX11_candidates_19 rfl ?_
    obtain ⟨v4, hc, h⟩ := cp_e h
    refine g_callVi (pc := 20) (As := [.int a1]) (rest := []) hC (c_X1_sizeOf l E a1 σ3 v4 hc) mi_X1_sizeOf mv_X1_sizeOf ob_11 rfl rfl lk_X11_178 rfl rfl (Nat.le_of_ble_eq_true rfl) ⟨by decide, by decide⟩ hab dX11_candidates_20 ?_
    exact g_rett (pc := 23) hC h hR dX11_candidates_23
set_option maxRecDepth 20000 in
theorem x_X11_candidates (l : Launch) (hl9 : l.stackTraces = false) (E : uE) (a1 : Int32) (σ : uS) (kx : Nat) (σr : uS) (h : F_X11_candidates a1 σ = some (.inr kx, σr)) : CtX l E yX11_candidates cX11_candidates 2 7 114 [.ref (E.2.1 0), .int a1] σ kx σr := by
  refine enterX 0 [some (.ref (E.2.1 0)), some (.int a1)] (by decide +kernel) rfl (Nat.le_of_ble_eq_true rfl) (fun o K hnL hC hab h6 hXt hR => ?_)
  have hC : Cx E K RX11 cX11_candidates (some .int) 7 114 := hC
  have hN : ∀ k, k < 2 → k < K.2.2.2.2.2 := fun k hk => hnL ▸ hk
  delta F_X11_candidates at h
  refine g_aload_n (pc := 0) hC dX11_candidates_0 rfl ?_
  refine fg_X11_28_0 (pc := 1) hC dX11_candidates_1 ?_
  refine g_iload_n (pc := 4) hC dX11_candidates_4 rfl ?_
  obtain ⟨v1, hc, h⟩ := cp_e h
  refine g_callVi (pc := 5) (As := [.int a1]) (rest := []) hC (c_X2_has l E a1 σ v1 hc) mi_X2_has mv_X2_has ob_6 rfl rfl lk_X11_159 rfl rfl (Nat.le_of_ble_eq_true rfl) ⟨by decide, by decide⟩ hab dX11_candidates_5 ?_
  by_cases c2 : v1 = 0
  · replace h := it_t c2 h
    exact g_thr (pc := 8) (As := [.int v1]) (rest := []) hC (x_X11_need l hl9 E v1 σ c2) mi_X11_need ms_X11_need lk_X11_139 rfl rfl (Nat.le_of_ble_eq_true rfl) ⟨by decide, by decide⟩ h6 hXt h hR dX11_candidates_8
  · replace h := it_f c2 h
    refine g_callSv (pc := 8) (As := [.int v1]) (rest := []) hC (c_X11_need l E v1 σ c2) mi_X11_need ms_X11_need lk_X11_139 rfl rfl (Nat.le_of_ble_eq_true rfl) ⟨by decide, by decide⟩ hab dX11_candidates_8 ?_
    refine g_aload_n (pc := 11) hC dX11_candidates_11 rfl ?_
    obtain ⟨σ3, hc, h⟩ := cp_e h
    refine g_callVv (pc := 12) (As := []) (rest := []) hC (c_X11_findPath l E σ σ3 hc) mi_X11_findPath mv_X11_findPath ob_0 rfl rfl lk_X11_175 rfl rfl (Nat.le_of_ble_eq_true rfl) ⟨by decide, by decide⟩ hab dX11_candidates_12 ?_
    refine g_aload_n (pc := 15) hC dX11_candidates_15 rfl ?_
    refine fg_X11_37_0 (pc := 16) hC dX11_candidates_16 ?_
    refine g_iload_n (pc := 19) hC dX11_candidates_19 rfl ?_
    obtain ⟨v4, hc, h⟩ := cp_e h
    refine g_callVi (pc := 20) (As := [.int a1]) (rest := []) hC (c_X1_sizeOf l E a1 σ3 v4 hc) mi_X1_sizeOf mv_X1_sizeOf ob_11 rfl rfl lk_X11_178 rfl rfl (Nat.le_of_ble_eq_true rfl) ⟨by decide, by decide⟩ hab dX11_candidates_20 ?_
    exact th_tr h
set_option maxRecDepth 20000 in
theorem c_X11_candidate (l : Launch) (E : uE) (a1 : Int32) (a2 : Int32) (a3 : Int32) (σ : uS) (r : Int32) (σr : uS) (h : F_X11_candidate a1 a2 a3 σ = some (.inl r, σr)) : CtI l E yX11_candidate cX11_candidate 4 (some .int) 7 114 [.ref (E.2.1 0), .int a1, .int a2, .int a3] σ r σr := by
  refine enterI 0 [some (.ref (E.2.1 0)), some (.int a1), some (.int a2), some (.int a3)] (by decide +kernel) rfl (Nat.le_of_ble_eq_true rfl) (fun o K hnL hC hab hR => ?_)
  have hC : Cx E K RX11 cX11_candidate (some .int) 7 114 := hC
  have hN : ∀ k, k < 4 → k < K.2.2.2.2.2 := fun k hk => hnL ▸ hk
  delta F_X11_candidate at h
  refine g_aload_n (pc := 0) hC dX11_candidate_0 rfl ?_
  obtain ⟨σ1, hc, h⟩ := cp_e h
  refine g_callVv (pc := 1) (As := []) (rest := []) hC (c_X11_findPath l E σ σ1 hc) mi_X11_findPath mv_X11_findPath ob_0 rfl rfl lk_X11_175 rfl rfl (Nat.le_of_ble_eq_true rfl) ⟨by decide, by decide⟩ hab dX11_candidate_1 ?_
  refine g_aload_n (pc := 4) hC dX11_candidate_4 rfl ?_
  refine fg_X11_37_0 (pc := 5) hC dX11_candidate_5 ?_
  refine g_iload_n (pc := 8) hC dX11_candidate_8 rfl ?_
  refine g_iload_n (pc := 9) hC dX11_candidate_9 rfl ?_
  obtain ⟨v2, hc, h⟩ := cp_e h
  refine g_callVi (pc := 10) (As := [.int a1, .int a2]) (rest := []) hC (c_X1_has l E a1 a2 σ1 v2 hc) mi_X1_has mv_X1_has ob_11 rfl rfl lk_X11_181 rfl rfl (Nat.le_of_ble_eq_true rfl) ⟨by decide, by decide⟩ hab dX11_candidate_10 ?_
  by_cases c3 : v2 = 0
  · replace h := it_t c3 h
    exact th_rt h
  · replace h := it_f c3 h
    refine g_callSv (pc := 13) (As := [.int v2]) (rest := []) hC (c_X11_need l E v2 σ1 c3) mi_X11_need ms_X11_need lk_X11_139 rfl rfl (Nat.le_of_ble_eq_true rfl) ⟨by decide, by decide⟩ hab dX11_candidate_13 ?_
    refine g_iload_n (pc := 16) hC dX11_candidate_16 rfl ?_
    have hJ30 : ∀ (v6 : Int32), J_X11_candidate_2 a1 a2 a3 σ1 v6 = some (.inl r, σr) → Gd l E K 0 0 o σ1 30 [some (.ref (E.2.1 0)), some (.int a1), some (.int a2), some (.int a3)] [.int v6] := by
      intro v6 h
      delta J_X11_candidate_2 at h
      by_cases c7 : v6 = 0
      · replace h := it_t c7 h
        exact th_rt h
      · replace h := it_f c7 h
        refine g_callSv (pc := 30) (As := [.int v6]) (rest := []) hC (c_X11_need l E v6 σ1 c7) mi_X11_need ms_X11_need lk_X11_139 rfl rfl (Nat.le_of_ble_eq_true rfl) ⟨by decide, by decide⟩ hab dX11_candidate_30 ?_
        refine g_iload_n (pc := 33) hC dX11_candidate_33 rfl ?_
        by_cases c8 : a3 = 0
        · replace h := it_t c8 h
          refine g_tabIn (tgt := 60) (off := 26) (pc := 34) hC dX11_candidate_34 (by rw [c8]; decide) (by rw [c8]; decide) (by rw [c8]; rfl) (by decide) ?_
          refine g_aload_n (pc := 60) hC dX11_candidate_60 rfl ?_
          refine fg_X11_37_0 (pc := 61) hC dX11_candidate_61 ?_
          refine g_iload_n (pc := 64) hC dX11_candidate_64 rfl ?_
          refine g_iload_n (pc := 65) hC dX11_candidate_65 rfl ?_
          obtain ⟨v9, hc, h⟩ := cp_e h
          refine g_callVi (pc := 66) (As := [.int a1, .int a2]) (rest := []) hC (c_X1_lagOf l E a1 a2 σ1 v9 hc) mi_X1_lagOf mv_X1_lagOf ob_11 rfl rfl lk_X11_183 rfl rfl (Nat.le_of_ble_eq_true rfl) ⟨by decide, by decide⟩ hab dX11_candidate_66 ?_
          exact g_rett (pc := 69) hC h hR dX11_candidate_69
        · replace h := it_f c8 h
          by_cases c10 : a3 = 1
          · replace h := it_t c10 h
            refine g_tabIn (tgt := 70) (off := 36) (pc := 34) hC dX11_candidate_34 (by rw [c10]; decide) (by rw [c10]; decide) (by rw [c10]; rfl) (by decide) ?_
            refine g_aload_n (pc := 70) hC dX11_candidate_70 rfl ?_
            refine fg_X11_37_0 (pc := 71) hC dX11_candidate_71 ?_
            refine g_iload_n (pc := 74) hC dX11_candidate_74 rfl ?_
            refine g_iload_n (pc := 75) hC dX11_candidate_75 rfl ?_
            obtain ⟨v11, hc, h⟩ := cp_e h
            refine g_callVi (pc := 76) (As := [.int a1, .int a2]) (rest := []) hC (c_X1_ownOf l E a1 a2 σ1 v11 hc) mi_X1_ownOf mv_X1_ownOf ob_11 rfl rfl lk_X11_186 rfl rfl (Nat.le_of_ble_eq_true rfl) ⟨by decide, by decide⟩ hab dX11_candidate_76 ?_
            exact g_rett (pc := 79) hC h hR dX11_candidate_79
          · replace h := it_f c10 h
            by_cases c12 : a3 = 2
            · replace h := it_t c12 h
              refine g_tabIn (tgt := 80) (off := 46) (pc := 34) hC dX11_candidate_34 (by rw [c12]; decide) (by rw [c12]; decide) (by rw [c12]; rfl) (by decide) ?_
              refine g_aload_n (pc := 80) hC dX11_candidate_80 rfl ?_
              refine fg_X11_37_0 (pc := 81) hC dX11_candidate_81 ?_
              refine g_iload_n (pc := 84) hC dX11_candidate_84 rfl ?_
              refine g_iload_n (pc := 85) hC dX11_candidate_85 rfl ?_
              obtain ⟨v13, hc, h⟩ := cp_e h
              refine g_callVi (pc := 86) (As := [.int a1, .int a2]) (rest := []) hC (c_X1_halfOf l E a1 a2 σ1 v13 hc) mi_X1_halfOf mv_X1_halfOf ob_11 rfl rfl lk_X11_189 rfl rfl (Nat.le_of_ble_eq_true rfl) ⟨by decide, by decide⟩ hab dX11_candidate_86 ?_
              exact g_rett (pc := 89) hC h hR dX11_candidate_89
            · replace h := it_f c12 h
              have q0 := sw_ne (n := 0) c8 rfl
              have q1 := sw_ne (n := 1) c10 rfl
              have q2 := sw_ne (n := 2) c12 rfl
              refine g_tabOut (tgt := 90) (pc := 34) hC dX11_candidate_34 (by omega) (by decide) ?_
              refine g_aload_n (pc := 90) hC dX11_candidate_90 rfl ?_
              refine fg_X11_37_0 (pc := 91) hC dX11_candidate_91 ?_
              refine g_iload_n (pc := 94) hC dX11_candidate_94 rfl ?_
              refine g_iload_n (pc := 95) hC dX11_candidate_95 rfl ?_
              obtain ⟨v14, hc, h⟩ := cp_e h
              refine g_callVi (pc := 96) (As := [.int a1, .int a2]) (rest := []) hC (c_X1_cheaperThan l E a1 a2 σ1 v14 hc) mi_X1_cheaperThan mv_X1_cheaperThan ob_11 rfl rfl lk_X11_192 rfl rfl (Nat.le_of_ble_eq_true rfl) ⟨by decide, by decide⟩ hab dX11_candidate_96 ?_
              exact g_rett (pc := 99) hC h hR dX11_candidate_99
    have hJ29 : J_X11_candidate_1 a1 a2 a3 σ1 = some (.inl r, σr) → Gd l E K 0 0 o σ1 29 [some (.ref (E.2.1 0)), some (.int a1), some (.int a2), some (.int a3)] [] := by
      intro h
      delta J_X11_candidate_1 at h
      refine g_iconst (pc := 29) hC ki_0 dX11_candidate_29 ?_
      exact hJ30 0 h
    refine g_if_lt (tgt := 29) (pc := 17) hC dX11_candidate_17 (by decide) (fun c4 => ?_) (fun c4 => ?_)
    · replace h := it_t c4 h
      exact hJ29 h
    · replace h := it_f c4 h
      refine g_iload_n (pc := 20) hC dX11_candidate_20 rfl ?_
      refine g_iconst (pc := 21) hC ki_3 dX11_candidate_21 ?_
      refine g_icmp_gt (tgt := 29) (pc := 22) hC dX11_candidate_22 (by decide) (fun c5 => ?_) (fun c5 => ?_)
      · replace h := it_t c5 h
        exact hJ29 h
      · replace h := it_f c5 h
        refine g_iconst (pc := 25) hC ki_1 dX11_candidate_25 ?_
        refine g_goto (tgt := 30) (pc := 26) hC dX11_candidate_26 (by decide) ?_
        exact hJ30 1 h
set_option maxRecDepth 20000 in
theorem x_X11_candidate (l : Launch) (hl9 : l.stackTraces = false) (E : uE) (a1 : Int32) (a2 : Int32) (a3 : Int32) (σ : uS) (kx : Nat) (σr : uS) (h : F_X11_candidate a1 a2 a3 σ = some (.inr kx, σr)) : CtX l E yX11_candidate cX11_candidate 4 7 114 [.ref (E.2.1 0), .int a1, .int a2, .int a3] σ kx σr := by
  refine enterX 0 [some (.ref (E.2.1 0)), some (.int a1), some (.int a2), some (.int a3)] (by decide +kernel) rfl (Nat.le_of_ble_eq_true rfl) (fun o K hnL hC hab h6 hXt hR => ?_)
  have hC : Cx E K RX11 cX11_candidate (some .int) 7 114 := hC
  have hN : ∀ k, k < 4 → k < K.2.2.2.2.2 := fun k hk => hnL ▸ hk
  delta F_X11_candidate at h
  refine g_aload_n (pc := 0) hC dX11_candidate_0 rfl ?_
  obtain ⟨σ1, hc, h⟩ := cp_e h
  refine g_callVv (pc := 1) (As := []) (rest := []) hC (c_X11_findPath l E σ σ1 hc) mi_X11_findPath mv_X11_findPath ob_0 rfl rfl lk_X11_175 rfl rfl (Nat.le_of_ble_eq_true rfl) ⟨by decide, by decide⟩ hab dX11_candidate_1 ?_
  refine g_aload_n (pc := 4) hC dX11_candidate_4 rfl ?_
  refine fg_X11_37_0 (pc := 5) hC dX11_candidate_5 ?_
  refine g_iload_n (pc := 8) hC dX11_candidate_8 rfl ?_
  refine g_iload_n (pc := 9) hC dX11_candidate_9 rfl ?_
  obtain ⟨v2, hc, h⟩ := cp_e h
  refine g_callVi (pc := 10) (As := [.int a1, .int a2]) (rest := []) hC (c_X1_has l E a1 a2 σ1 v2 hc) mi_X1_has mv_X1_has ob_11 rfl rfl lk_X11_181 rfl rfl (Nat.le_of_ble_eq_true rfl) ⟨by decide, by decide⟩ hab dX11_candidate_10 ?_
  by_cases c3 : v2 = 0
  · replace h := it_t c3 h
    exact g_thr (pc := 13) (As := [.int v2]) (rest := []) hC (x_X11_need l hl9 E v2 σ1 c3) mi_X11_need ms_X11_need lk_X11_139 rfl rfl (Nat.le_of_ble_eq_true rfl) ⟨by decide, by decide⟩ h6 hXt h hR dX11_candidate_13
  · replace h := it_f c3 h
    refine g_callSv (pc := 13) (As := [.int v2]) (rest := []) hC (c_X11_need l E v2 σ1 c3) mi_X11_need ms_X11_need lk_X11_139 rfl rfl (Nat.le_of_ble_eq_true rfl) ⟨by decide, by decide⟩ hab dX11_candidate_13 ?_
    refine g_iload_n (pc := 16) hC dX11_candidate_16 rfl ?_
    have hJ30 : ∀ (v6 : Int32), J_X11_candidate_2 a1 a2 a3 σ1 v6 = some (.inr kx, σr) → Gd l E K 0 0 o σ1 30 [some (.ref (E.2.1 0)), some (.int a1), some (.int a2), some (.int a3)] [.int v6] := by
      intro v6 h
      delta J_X11_candidate_2 at h
      by_cases c7 : v6 = 0
      · replace h := it_t c7 h
        exact g_thr (pc := 30) (As := [.int v6]) (rest := []) hC (x_X11_need l hl9 E v6 σ1 c7) mi_X11_need ms_X11_need lk_X11_139 rfl rfl (Nat.le_of_ble_eq_true rfl) ⟨by decide, by decide⟩ h6 hXt h hR dX11_candidate_30
      · replace h := it_f c7 h
        refine g_callSv (pc := 30) (As := [.int v6]) (rest := []) hC (c_X11_need l E v6 σ1 c7) mi_X11_need ms_X11_need lk_X11_139 rfl rfl (Nat.le_of_ble_eq_true rfl) ⟨by decide, by decide⟩ hab dX11_candidate_30 ?_
        refine g_iload_n (pc := 33) hC dX11_candidate_33 rfl ?_
        by_cases c8 : a3 = 0
        · replace h := it_t c8 h
          refine g_tabIn (tgt := 60) (off := 26) (pc := 34) hC dX11_candidate_34 (by rw [c8]; decide) (by rw [c8]; decide) (by rw [c8]; rfl) (by decide) ?_
          refine g_aload_n (pc := 60) hC dX11_candidate_60 rfl ?_
          refine fg_X11_37_0 (pc := 61) hC dX11_candidate_61 ?_
          refine g_iload_n (pc := 64) hC dX11_candidate_64 rfl ?_
          refine g_iload_n (pc := 65) hC dX11_candidate_65 rfl ?_
          obtain ⟨v9, hc, h⟩ := cp_e h
          refine g_callVi (pc := 66) (As := [.int a1, .int a2]) (rest := []) hC (c_X1_lagOf l E a1 a2 σ1 v9 hc) mi_X1_lagOf mv_X1_lagOf ob_11 rfl rfl lk_X11_183 rfl rfl (Nat.le_of_ble_eq_true rfl) ⟨by decide, by decide⟩ hab dX11_candidate_66 ?_
          exact th_tr h
        · replace h := it_f c8 h
          by_cases c10 : a3 = 1
          · replace h := it_t c10 h
            refine g_tabIn (tgt := 70) (off := 36) (pc := 34) hC dX11_candidate_34 (by rw [c10]; decide) (by rw [c10]; decide) (by rw [c10]; rfl) (by decide) ?_
            refine g_aload_n (pc := 70) hC dX11_candidate_70 rfl ?_
            refine fg_X11_37_0 (pc := 71) hC dX11_candidate_71 ?_
            refine g_iload_n (pc := 74) hC dX11_candidate_74 rfl ?_
            refine g_iload_n (pc := 75) hC dX11_candidate_75 rfl ?_
            obtain ⟨v11, hc, h⟩ := cp_e h
            refine g_callVi (pc := 76) (As := [.int a1, .int a2]) (rest := []) hC (c_X1_ownOf l E a1 a2 σ1 v11 hc) mi_X1_ownOf mv_X1_ownOf ob_11 rfl rfl lk_X11_186 rfl rfl (Nat.le_of_ble_eq_true rfl) ⟨by decide, by decide⟩ hab dX11_candidate_76 ?_
            exact th_tr h
          · replace h := it_f c10 h
            by_cases c12 : a3 = 2
            · replace h := it_t c12 h
              refine g_tabIn (tgt := 80) (off := 46) (pc := 34) hC dX11_candidate_34 (by rw [c12]; decide) (by rw [c12]; decide) (by rw [c12]; rfl) (by decide) ?_
              refine g_aload_n (pc := 80) hC dX11_candidate_80 rfl ?_
              refine fg_X11_37_0 (pc := 81) hC dX11_candidate_81 ?_
              refine g_iload_n (pc := 84) hC dX11_candidate_84 rfl ?_
              refine g_iload_n (pc := 85) hC dX11_candidate_85 rfl ?_
              obtain ⟨v13, hc, h⟩ := cp_e h
              refine g_callVi (pc := 86) (As := [.int a1, .int a2]) (rest := []) hC (c_X1_halfOf l E a1 a2 σ1 v13 hc) mi_X1_halfOf mv_X1_halfOf ob_11 rfl rfl lk_X11_189 rfl rfl (Nat.le_of_ble_eq_true rfl) ⟨by decide, by decide⟩ hab dX11_candidate_86 ?_
              exact th_tr h
            · replace h := it_f c12 h
              have q0 := sw_ne (n := 0) c8 rfl
              have q1 := sw_ne (n := 1) c10 rfl
              have q2 := sw_ne (n := 2) c12 rfl
              refine g_tabOut (tgt := 90) (pc := 34) hC dX11_candidate_34 (by omega) (by decide) ?_
              refine g_aload_n (pc := 90) hC dX11_candidate_90 rfl ?_
              refine fg_X11_37_0 (pc := 91) hC dX11_candidate_91 ?_
              refine g_iload_n (pc := 94) hC dX11_candidate_94 rfl ?_
              refine g_iload_n (pc := 95) hC dX11_candidate_95 rfl ?_
              obtain ⟨v14, hc, h⟩ := cp_e h
              refine g_callVi (pc := 96) (As := [.int a1, .int a2]) (rest := []) hC (c_X1_cheaperThan l E a1 a2 σ1 v14 hc) mi_X1_cheaperThan mv_X1_cheaperThan ob_11 rfl rfl lk_X11_192 rfl rfl (Nat.le_of_ble_eq_true rfl) ⟨by decide, by decide⟩ hab dX11_candidate_96 ?_
              exact th_tr h
    have hJ29 : J_X11_candidate_1 a1 a2 a3 σ1 = some (.inr kx, σr) → Gd l E K 0 0 o σ1 29 [some (.ref (E.2.1 0)), some (.int a1), some (.int a2), some (.int a3)] [] := by
      intro h
      delta J_X11_candidate_1 at h
      refine g_iconst (pc := 29) hC ki_0 dX11_candidate_29 ?_
      exact hJ30 0 h
    refine g_if_lt (tgt := 29) (pc := 17) hC dX11_candidate_17 (by decide) (fun c4 => ?_) (fun c4 => ?_)
    · replace h := it_t c4 h
      exact hJ29 h
    · replace h := it_f c4 h
      refine g_iload_n (pc := 20) hC dX11_candidate_20 rfl ?_
      refine g_iconst (pc := 21) hC ki_3 dX11_candidate_21 ?_
      refine g_icmp_gt (tgt := 29) (pc := 22) hC dX11_candidate_22 (by decide) (fun c5 => ?_) (fun c5 => ?_)
      · replace h := it_t c5 h
        exact hJ29 h
      · replace h := it_f c5 h
        refine g_iconst (pc := 25) hC ki_1 dX11_candidate_25 ?_
        refine g_goto (tgt := 30) (pc := 26) hC dX11_candidate_26 (by decide) ?_
        exact hJ30 1 h
set_option maxRecDepth 20000 in
theorem c_X11_fine (l : Launch) (E : uE) (a1 : Int32) (a2 : Int32) (a3 : Int32) (σ : uS) (r : Int32) (σr : uS) (h : F_X11_fine a1 a2 a3 σ = some (.inl r, σr)) : CtI l E yX11_fine cX11_fine 10 (some .int) 7 114 [.ref (E.2.1 0), .int a1, .int a2, .int a3] σ r σr := by
  refine enterI 6 [some (.ref (E.2.1 0)), some (.int a1), some (.int a2), some (.int a3), none, none, none, none, none, none] (by decide +kernel) rfl (Nat.le_of_ble_eq_true rfl) (fun o K hnL hC hab hR => ?_)
  have hC : Cx E K RX11 cX11_fine (some .int) 7 114 := hC
  have hN : ∀ k, k < 10 → k < K.2.2.2.2.2 := fun k hk => hnL ▸ hk
  delta F_X11_fine at h
  refine g_aload_n (pc := 0) hC dX11_fine_0 rfl ?_
  obtain ⟨σ1, hc, h⟩ := cp_e h
  refine g_callVv (pc := 1) (As := []) (rest := []) hC (c_X11_findPath l E σ σ1 hc) mi_X11_findPath mv_X11_findPath ob_0 rfl rfl lk_X11_175 rfl rfl (Nat.le_of_ble_eq_true rfl) ⟨by decide, by decide⟩ hab dX11_fine_1 ?_
  refine g_aload_n (pc := 4) hC dX11_fine_4 rfl ?_
  refine fg_X11_37_0 (pc := 5) hC dX11_fine_5 ?_
  refine g_iload_n (pc := 8) hC dX11_fine_8 rfl ?_
  refine g_iload_n (pc := 9) hC dX11_fine_9 rfl ?_
  obtain ⟨v2, hc, h⟩ := cp_e h
  refine g_callVi (pc := 10) (As := [.int a1, .int a2]) (rest := []) hC (c_X1_has l E a1 a2 σ1 v2 hc) mi_X1_has mv_X1_has ob_11 rfl rfl lk_X11_181 rfl rfl (Nat.le_of_ble_eq_true rfl) ⟨by decide, by decide⟩ hab dX11_fine_10 ?_
  by_cases c3 : v2 = 0
  · replace h := it_t c3 h
    exact th_rt h
  · replace h := it_f c3 h
    refine g_callSv (pc := 13) (As := [.int v2]) (rest := []) hC (c_X11_need l E v2 σ1 c3) mi_X11_need ms_X11_need lk_X11_139 rfl rfl (Nat.le_of_ble_eq_true rfl) ⟨by decide, by decide⟩ hab dX11_fine_13 ?_
    refine g_aload_n (pc := 16) hC dX11_fine_16 rfl ?_
    refine fg_X11_37_0 (pc := 17) hC dX11_fine_17 ?_
    refine g_iload_n (pc := 20) hC dX11_fine_20 rfl ?_
    refine g_iload_n (pc := 21) hC dX11_fine_21 rfl ?_
    obtain ⟨v4, hc, h⟩ := cp_e h
    refine g_callVi (pc := 22) (As := [.int a1, .int a2]) (rest := []) hC (c_X1_lagOf l E a1 a2 σ1 v4 hc) mi_X1_lagOf mv_X1_lagOf ob_11 rfl rfl lk_X11_183 rfl rfl (Nat.le_of_ble_eq_true rfl) ⟨by decide, by decide⟩ hab dX11_fine_22 ?_
    refine g_istore (lv2 := [some (.ref (E.2.1 0)), some (.int a1), some (.int a2), some (.int a3), some (.int v4), none, none, none, none, none]) (pc := 25) hC dX11_fine_25 rfl (Or.inr rfl) (hN _ (by decide)) ?_
    refine g_iload (pc := 27) hC dX11_fine_27 rfl ?_
    obtain ⟨v6, ev6, h⟩ := lt_e h
    have hJ37 : Gd l E K 0 0 o σ1 37 [some (.ref (E.2.1 0)), some (.int a1), none, some (.int a3), some (.int v4), none, none, none, none, none] [.int v6] := by
      by_cases c7 : v6 = 0
      · replace h := it_t c7 h
        exact th_rt h
      · replace h := it_f c7 h
        refine g_callSv (pc := 37) (As := [.int v6]) (rest := []) hC (c_X11_need l E v6 σ1 c7) mi_X11_need ms_X11_need lk_X11_139 rfl rfl (Nat.le_of_ble_eq_true rfl) ⟨by decide, by decide⟩ hab dX11_fine_37 ?_
        refine g_aload_n (pc := 40) hC dX11_fine_40 rfl ?_
        refine fg_X11_28_0 (pc := 41) hC dX11_fine_41 ?_
        refine g_iload_n (pc := 44) hC dX11_fine_44 rfl ?_
        refine g_iload (pc := 45) hC dX11_fine_45 rfl ?_
        refine g_iconst (pc := 47) hC ki_1 dX11_fine_47 ?_
        refine g_isub (pc := 48) hC dX11_fine_48 ?_
        obtain ⟨v8, hc, h⟩ := cp_e h
        refine g_callVi (pc := 49) (As := [.int a1, .int (v4 - 1)]) (rest := []) hC (c_X2_diffAt l E a1 (v4 - 1) σ1 v8 hc) mi_X2_diffAt mv_X2_diffAt ob_6 rfl rfl lk_X11_166 rfl rfl (Nat.le_of_ble_eq_true rfl) ⟨by decide, by decide⟩ hab dX11_fine_49 ?_
        refine g_istore (lv2 := [some (.ref (E.2.1 0)), some (.int a1), none, some (.int a3), some (.int v4), some (.int v8), none, none, none, none]) (pc := 52) hC dX11_fine_52 rfl (Or.inr rfl) (hN _ (by decide)) ?_
        refine g_aload_n (pc := 54) hC dX11_fine_54 rfl ?_
        refine fg_X11_28_0 (pc := 55) hC dX11_fine_55 ?_
        refine g_iload_n (pc := 58) hC dX11_fine_58 rfl ?_
        refine g_iload (pc := 59) hC dX11_fine_59 rfl ?_
        obtain ⟨v9, hc, h⟩ := cp_e h
        refine g_callVi (pc := 61) (As := [.int a1, .int v4]) (rest := []) hC (c_X2_diffAt l E a1 v4 σ1 v9 hc) mi_X2_diffAt mv_X2_diffAt ob_6 rfl rfl lk_X11_166 rfl rfl (Nat.le_of_ble_eq_true rfl) ⟨by decide, by decide⟩ hab dX11_fine_61 ?_
        refine g_istore (lv2 := [some (.ref (E.2.1 0)), some (.int a1), none, some (.int a3), some (.int v4), some (.int v8), some (.int v9), none, none, none]) (pc := 64) hC dX11_fine_64 rfl (Or.inr rfl) (hN _ (by decide)) ?_
        refine g_aload_n (pc := 66) hC dX11_fine_66 rfl ?_
        refine fg_X11_28_0 (pc := 67) hC dX11_fine_67 ?_
        refine g_iload_n (pc := 70) hC dX11_fine_70 rfl ?_
        refine g_iload (pc := 71) hC dX11_fine_71 rfl ?_
        refine g_iconst (pc := 73) hC ki_1 dX11_fine_73 ?_
        refine g_iadd (pc := 74) hC dX11_fine_74 ?_
        obtain ⟨v10, hc, h⟩ := cp_e h
        refine g_callVi (pc := 75) (As := [.int a1, .int (v4 + 1)]) (rest := []) hC (c_X2_diffAt l E a1 (v4 + 1) σ1 v10 hc) mi_X2_diffAt mv_X2_diffAt ob_6 rfl rfl lk_X11_166 rfl rfl (Nat.le_of_ble_eq_true rfl) ⟨by decide, by decide⟩ hab dX11_fine_75 ?_
        refine g_istore (lv2 := [some (.ref (E.2.1 0)), some (.int a1), none, some (.int a3), some (.int v4), some (.int v8), some (.int v9), some (.int v10), none, none]) (pc := 78) hC dX11_fine_78 rfl (Or.inr rfl) (hN _ (by decide)) ?_
        refine g_iconst (pc := 80) hC ki_2 dX11_fine_80 ?_
        refine g_iload (pc := 81) hC dX11_fine_81 rfl ?_
        refine g_iconst (pc := 83) hC ki_2 dX11_fine_83 ?_
        refine g_iload (pc := 84) hC dX11_fine_84 rfl ?_
        refine g_imul (pc := 86) hC dX11_fine_86 ?_
        refine g_isub (pc := 87) hC dX11_fine_87 ?_
        refine g_iload (pc := 88) hC dX11_fine_88 rfl ?_
        refine g_iadd (pc := 90) hC dX11_fine_90 ?_
        refine g_imul (pc := 91) hC dX11_fine_91 ?_
        obtain ⟨v11, ev11, h⟩ := lt_e h
        refine g_top ev11 ?_
        refine g_istore (lv2 := [some (.ref (E.2.1 0)), some (.int a1), none, some (.int a3), some (.int v4), some (.int v8), some (.int v9), some (.int v10), some (.int v11), none]) (pc := 92) hC dX11_fine_92 rfl (Or.inr rfl) (hN _ (by decide)) ?_
        refine g_iload (pc := 94) hC dX11_fine_94 rfl ?_
        refine g_if_ne (tgt := 110) (pc := 96) hC dX11_fine_96 (by decide) (fun c12 => ?_) (fun c12 => ?_)
        · replace h := it_f c12 h
          refine g_iload (pc := 110) hC dX11_fine_110 rfl ?_
          refine g_iload (pc := 112) hC dX11_fine_112 rfl ?_
          refine g_imul (pc := 114) hC dX11_fine_114 ?_
          refine g_iload (pc := 115) hC dX11_fine_115 rfl ?_
          refine g_iadd (pc := 117) hC dX11_fine_117 ?_
          refine g_iload (pc := 118) hC dX11_fine_118 rfl ?_
          refine g_isub (pc := 120) hC dX11_fine_120 ?_
          obtain ⟨v13, ev13, h⟩ := lt_e h
          refine g_top ev13 ?_
          refine g_istore (lv2 := [some (.ref (E.2.1 0)), some (.int a1), none, some (.int a3), some (.int v4), some (.int v8), some (.int v9), some (.int v10), some (.int v11), some (.int v13)]) (pc := 121) hC dX11_fine_121 rfl (Or.inr rfl) (hN _ (by decide)) ?_
          refine g_iload (pc := 123) hC dX11_fine_123 rfl ?_
          have hJ149 : ∀ (v17 : Int32), J_X11_fine_1 σ1 v17 = some (.inl r, σr) → Gd l E K 0 0 o σ1 149 [none, none, none, none, none, none, none, none, none, none] [.int v17] := by
            intro v17 h
            delta J_X11_fine_1 at h
            exact g_rett (pc := 149) hC h hR dX11_fine_149
          refine g_if_ge (tgt := 141) (pc := 125) hC dX11_fine_125 (by decide) (fun c14 => ?_) (fun c14 => ?_)
          · replace h := it_t c14 h
            refine g_iload (pc := 141) hC dX11_fine_141 rfl ?_
            refine g_iload (pc := 143) hC dX11_fine_143 rfl ?_
            refine g_iload_n (pc := 145) hC dX11_fine_145 rfl ?_
            obtain ⟨v15, hc, h⟩ := cp_e h
            refine g_callSi (pc := 146) (As := [.int v13, .int v11, .int a3]) (rest := []) hC (c_X11_lowest l E v13 v11 a3 σ1 v15 hc) mi_X11_lowest ms_X11_lowest lk_X11_195 rfl rfl (Nat.le_of_ble_eq_true rfl) ⟨by decide, by decide⟩ hab dX11_fine_146 ?_
            refine g_mask [false, false, false, false, false, false, false, false, false, false] rfl ?_
            exact hJ149 v15 h
          · replace h := it_f c14 h
            refine g_iload (pc := 128) hC dX11_fine_128 rfl ?_
            refine g_ineg (pc := 130) hC dX11_fine_130 ?_
            refine g_iload (pc := 131) hC dX11_fine_131 rfl ?_
            refine g_ineg (pc := 133) hC dX11_fine_133 ?_
            refine g_iload_n (pc := 134) hC dX11_fine_134 rfl ?_
            obtain ⟨v16, hc, h⟩ := cp_e h
            refine g_callSi (pc := 135) (As := [.int (-v13), .int (-v11), .int a3]) (rest := []) hC (c_X11_lowest l E (-v13) (-v11) a3 σ1 v16 hc) mi_X11_lowest ms_X11_lowest lk_X11_195 rfl rfl (Nat.le_of_ble_eq_true rfl) ⟨by decide, by decide⟩ hab dX11_fine_135 ?_
            refine g_goto (tgt := 149) (pc := 138) hC dX11_fine_138 (by decide) ?_
            refine g_mask [false, false, false, false, false, false, false, false, false, false] rfl ?_
            exact hJ149 v16 h
        · replace h := it_t c12 h
          refine g_iload_n (pc := 99) hC dX11_fine_99 rfl ?_
          obtain ⟨v19, ev19, h⟩ := lt_e h
          have hJ109 : Gd l E K 0 0 o σ1 109 [none, none, none, none, none, none, none, none, none, none] [.int v19] := by
            exact g_rett (pc := 109) hC h hR dX11_fine_109
          refine g_if_eq (tgt := 107) (pc := 100) hC dX11_fine_100 (by decide) (fun c18 => ?_) (fun c18 => ?_)
          · refine g_iload (pc := 107) hC dX11_fine_107 rfl ?_
            refine g_mask [false, false, false, false, false, false, false, false, false, false] rfl ?_
            exact g_top (iv_t c18 ev19) hJ109
          · refine g_iconst (pc := 103) hC ki_1 dX11_fine_103 ?_
            refine g_goto (tgt := 109) (pc := 104) hC dX11_fine_104 (by decide) ?_
            refine g_mask [false, false, false, false, false, false, false, false, false, false] rfl ?_
            exact g_top (iv_f c18 ev19) hJ109
    refine g_if_eq (tgt := 36) (pc := 29) hC dX11_fine_29 (by decide) (fun c5 => ?_) (fun c5 => ?_)
    · refine g_iconst (pc := 36) hC ki_0 dX11_fine_36 ?_
      refine g_mask [true, true, false, true, true, false, false, false, false, false] rfl ?_
      exact g_top (iv_t c5 ev6) hJ37
    · refine g_iconst (pc := 32) hC ki_1 dX11_fine_32 ?_
      refine g_goto (tgt := 37) (pc := 33) hC dX11_fine_33 (by decide) ?_
      refine g_mask [true, true, false, true, true, false, false, false, false, false] rfl ?_
      exact g_top (iv_f c5 ev6) hJ37
set_option maxRecDepth 20000 in
theorem x_X11_fine (l : Launch) (hl9 : l.stackTraces = false) (E : uE) (a1 : Int32) (a2 : Int32) (a3 : Int32) (σ : uS) (kx : Nat) (σr : uS) (h : F_X11_fine a1 a2 a3 σ = some (.inr kx, σr)) : CtX l E yX11_fine cX11_fine 10 7 114 [.ref (E.2.1 0), .int a1, .int a2, .int a3] σ kx σr := by
  refine enterX 6 [some (.ref (E.2.1 0)), some (.int a1), some (.int a2), some (.int a3), none, none, none, none, none, none] (by decide +kernel) rfl (Nat.le_of_ble_eq_true rfl) (fun o K hnL hC hab h6 hXt hR => ?_)
  have hC : Cx E K RX11 cX11_fine (some .int) 7 114 := hC
  have hN : ∀ k, k < 10 → k < K.2.2.2.2.2 := fun k hk => hnL ▸ hk
  delta F_X11_fine at h
  refine g_aload_n (pc := 0) hC dX11_fine_0 rfl ?_
  obtain ⟨σ1, hc, h⟩ := cp_e h
  refine g_callVv (pc := 1) (As := []) (rest := []) hC (c_X11_findPath l E σ σ1 hc) mi_X11_findPath mv_X11_findPath ob_0 rfl rfl lk_X11_175 rfl rfl (Nat.le_of_ble_eq_true rfl) ⟨by decide, by decide⟩ hab dX11_fine_1 ?_
  refine g_aload_n (pc := 4) hC dX11_fine_4 rfl ?_
  refine fg_X11_37_0 (pc := 5) hC dX11_fine_5 ?_
  refine g_iload_n (pc := 8) hC dX11_fine_8 rfl ?_
  refine g_iload_n (pc := 9) hC dX11_fine_9 rfl ?_
  obtain ⟨v2, hc, h⟩ := cp_e h
  refine g_callVi (pc := 10) (As := [.int a1, .int a2]) (rest := []) hC (c_X1_has l E a1 a2 σ1 v2 hc) mi_X1_has mv_X1_has ob_11 rfl rfl lk_X11_181 rfl rfl (Nat.le_of_ble_eq_true rfl) ⟨by decide, by decide⟩ hab dX11_fine_10 ?_
  by_cases c3 : v2 = 0
  · replace h := it_t c3 h
    exact g_thr (pc := 13) (As := [.int v2]) (rest := []) hC (x_X11_need l hl9 E v2 σ1 c3) mi_X11_need ms_X11_need lk_X11_139 rfl rfl (Nat.le_of_ble_eq_true rfl) ⟨by decide, by decide⟩ h6 hXt h hR dX11_fine_13
  · replace h := it_f c3 h
    refine g_callSv (pc := 13) (As := [.int v2]) (rest := []) hC (c_X11_need l E v2 σ1 c3) mi_X11_need ms_X11_need lk_X11_139 rfl rfl (Nat.le_of_ble_eq_true rfl) ⟨by decide, by decide⟩ hab dX11_fine_13 ?_
    refine g_aload_n (pc := 16) hC dX11_fine_16 rfl ?_
    refine fg_X11_37_0 (pc := 17) hC dX11_fine_17 ?_
    refine g_iload_n (pc := 20) hC dX11_fine_20 rfl ?_
    refine g_iload_n (pc := 21) hC dX11_fine_21 rfl ?_
    obtain ⟨v4, hc, h⟩ := cp_e h
    refine g_callVi (pc := 22) (As := [.int a1, .int a2]) (rest := []) hC (c_X1_lagOf l E a1 a2 σ1 v4 hc) mi_X1_lagOf mv_X1_lagOf ob_11 rfl rfl lk_X11_183 rfl rfl (Nat.le_of_ble_eq_true rfl) ⟨by decide, by decide⟩ hab dX11_fine_22 ?_
    refine g_istore (lv2 := [some (.ref (E.2.1 0)), some (.int a1), some (.int a2), some (.int a3), some (.int v4), none, none, none, none, none]) (pc := 25) hC dX11_fine_25 rfl (Or.inr rfl) (hN _ (by decide)) ?_
    refine g_iload (pc := 27) hC dX11_fine_27 rfl ?_
    obtain ⟨v6, ev6, h⟩ := lt_e h
    have hJ37 : Gd l E K 0 0 o σ1 37 [some (.ref (E.2.1 0)), some (.int a1), none, some (.int a3), some (.int v4), none, none, none, none, none] [.int v6] := by
      by_cases c7 : v6 = 0
      · replace h := it_t c7 h
        exact g_thr (pc := 37) (As := [.int v6]) (rest := []) hC (x_X11_need l hl9 E v6 σ1 c7) mi_X11_need ms_X11_need lk_X11_139 rfl rfl (Nat.le_of_ble_eq_true rfl) ⟨by decide, by decide⟩ h6 hXt h hR dX11_fine_37
      · replace h := it_f c7 h
        refine g_callSv (pc := 37) (As := [.int v6]) (rest := []) hC (c_X11_need l E v6 σ1 c7) mi_X11_need ms_X11_need lk_X11_139 rfl rfl (Nat.le_of_ble_eq_true rfl) ⟨by decide, by decide⟩ hab dX11_fine_37 ?_
        refine g_aload_n (pc := 40) hC dX11_fine_40 rfl ?_
        refine fg_X11_28_0 (pc := 41) hC dX11_fine_41 ?_
        refine g_iload_n (pc := 44) hC dX11_fine_44 rfl ?_
        refine g_iload (pc := 45) hC dX11_fine_45 rfl ?_
        refine g_iconst (pc := 47) hC ki_1 dX11_fine_47 ?_
        refine g_isub (pc := 48) hC dX11_fine_48 ?_
        obtain ⟨v8, hc, h⟩ := cp_e h
        refine g_callVi (pc := 49) (As := [.int a1, .int (v4 - 1)]) (rest := []) hC (c_X2_diffAt l E a1 (v4 - 1) σ1 v8 hc) mi_X2_diffAt mv_X2_diffAt ob_6 rfl rfl lk_X11_166 rfl rfl (Nat.le_of_ble_eq_true rfl) ⟨by decide, by decide⟩ hab dX11_fine_49 ?_
        refine g_istore (lv2 := [some (.ref (E.2.1 0)), some (.int a1), none, some (.int a3), some (.int v4), some (.int v8), none, none, none, none]) (pc := 52) hC dX11_fine_52 rfl (Or.inr rfl) (hN _ (by decide)) ?_
        refine g_aload_n (pc := 54) hC dX11_fine_54 rfl ?_
        refine fg_X11_28_0 (pc := 55) hC dX11_fine_55 ?_
        refine g_iload_n (pc := 58) hC dX11_fine_58 rfl ?_
        refine g_iload (pc := 59) hC dX11_fine_59 rfl ?_
        obtain ⟨v9, hc, h⟩ := cp_e h
        refine g_callVi (pc := 61) (As := [.int a1, .int v4]) (rest := []) hC (c_X2_diffAt l E a1 v4 σ1 v9 hc) mi_X2_diffAt mv_X2_diffAt ob_6 rfl rfl lk_X11_166 rfl rfl (Nat.le_of_ble_eq_true rfl) ⟨by decide, by decide⟩ hab dX11_fine_61 ?_
        refine g_istore (lv2 := [some (.ref (E.2.1 0)), some (.int a1), none, some (.int a3), some (.int v4), some (.int v8), some (.int v9), none, none, none]) (pc := 64) hC dX11_fine_64 rfl (Or.inr rfl) (hN _ (by decide)) ?_
        refine g_aload_n (pc := 66) hC dX11_fine_66 rfl ?_
        refine fg_X11_28_0 (pc := 67) hC dX11_fine_67 ?_
        refine g_iload_n (pc := 70) hC dX11_fine_70 rfl ?_
        refine g_iload (pc := 71) hC dX11_fine_71 rfl ?_
        refine g_iconst (pc := 73) hC ki_1 dX11_fine_73 ?_
        refine g_iadd (pc := 74) hC dX11_fine_74 ?_
        obtain ⟨v10, hc, h⟩ := cp_e h
        refine g_callVi (pc := 75) (As := [.int a1, .int (v4 + 1)]) (rest := []) hC (c_X2_diffAt l E a1 (v4 + 1) σ1 v10 hc) mi_X2_diffAt mv_X2_diffAt ob_6 rfl rfl lk_X11_166 rfl rfl (Nat.le_of_ble_eq_true rfl) ⟨by decide, by decide⟩ hab dX11_fine_75 ?_
        refine g_istore (lv2 := [some (.ref (E.2.1 0)), some (.int a1), none, some (.int a3), some (.int v4), some (.int v8), some (.int v9), some (.int v10), none, none]) (pc := 78) hC dX11_fine_78 rfl (Or.inr rfl) (hN _ (by decide)) ?_
        refine g_iconst (pc := 80) hC ki_2 dX11_fine_80 ?_
        refine g_iload (pc := 81) hC dX11_fine_81 rfl ?_
        refine g_iconst (pc := 83) hC ki_2 dX11_fine_83 ?_
        refine g_iload (pc := 84) hC dX11_fine_84 rfl ?_
        refine g_imul (pc := 86) hC dX11_fine_86 ?_
        refine g_isub (pc := 87) hC dX11_fine_87 ?_
        refine g_iload (pc := 88) hC dX11_fine_88 rfl ?_
        refine g_iadd (pc := 90) hC dX11_fine_90 ?_
        refine g_imul (pc := 91) hC dX11_fine_91 ?_
        obtain ⟨v11, ev11, h⟩ := lt_e h
        refine g_top ev11 ?_
        refine g_istore (lv2 := [some (.ref (E.2.1 0)), some (.int a1), none, some (.int a3), some (.int v4), some (.int v8), some (.int v9), some (.int v10), some (.int v11), none]) (pc := 92) hC dX11_fine_92 rfl (Or.inr rfl) (hN _ (by decide)) ?_
        refine g_iload (pc := 94) hC dX11_fine_94 rfl ?_
        refine g_if_ne (tgt := 110) (pc := 96) hC dX11_fine_96 (by decide) (fun c12 => ?_) (fun c12 => ?_)
        · replace h := it_f c12 h
          refine g_iload (pc := 110) hC dX11_fine_110 rfl ?_
          refine g_iload (pc := 112) hC dX11_fine_112 rfl ?_
          refine g_imul (pc := 114) hC dX11_fine_114 ?_
          refine g_iload (pc := 115) hC dX11_fine_115 rfl ?_
          refine g_iadd (pc := 117) hC dX11_fine_117 ?_
          refine g_iload (pc := 118) hC dX11_fine_118 rfl ?_
          refine g_isub (pc := 120) hC dX11_fine_120 ?_
          obtain ⟨v13, ev13, h⟩ := lt_e h
          refine g_top ev13 ?_
          refine g_istore (lv2 := [some (.ref (E.2.1 0)), some (.int a1), none, some (.int a3), some (.int v4), some (.int v8), some (.int v9), some (.int v10), some (.int v11), some (.int v13)]) (pc := 121) hC dX11_fine_121 rfl (Or.inr rfl) (hN _ (by decide)) ?_
          refine g_iload (pc := 123) hC dX11_fine_123 rfl ?_
          have hJ149 : ∀ (v17 : Int32), J_X11_fine_1 σ1 v17 = some (.inr kx, σr) → Gd l E K 0 0 o σ1 149 [none, none, none, none, none, none, none, none, none, none] [.int v17] := by
            intro v17 h
            delta J_X11_fine_1 at h
            exact th_tr h
          refine g_if_ge (tgt := 141) (pc := 125) hC dX11_fine_125 (by decide) (fun c14 => ?_) (fun c14 => ?_)
          · replace h := it_t c14 h
            refine g_iload (pc := 141) hC dX11_fine_141 rfl ?_
            refine g_iload (pc := 143) hC dX11_fine_143 rfl ?_
            refine g_iload_n (pc := 145) hC dX11_fine_145 rfl ?_
            obtain ⟨v15, hc, h⟩ := cp_e h
            refine g_callSi (pc := 146) (As := [.int v13, .int v11, .int a3]) (rest := []) hC (c_X11_lowest l E v13 v11 a3 σ1 v15 hc) mi_X11_lowest ms_X11_lowest lk_X11_195 rfl rfl (Nat.le_of_ble_eq_true rfl) ⟨by decide, by decide⟩ hab dX11_fine_146 ?_
            refine g_mask [false, false, false, false, false, false, false, false, false, false] rfl ?_
            exact hJ149 v15 h
          · replace h := it_f c14 h
            refine g_iload (pc := 128) hC dX11_fine_128 rfl ?_
            refine g_ineg (pc := 130) hC dX11_fine_130 ?_
            refine g_iload (pc := 131) hC dX11_fine_131 rfl ?_
            refine g_ineg (pc := 133) hC dX11_fine_133 ?_
            refine g_iload_n (pc := 134) hC dX11_fine_134 rfl ?_
            obtain ⟨v16, hc, h⟩ := cp_e h
            refine g_callSi (pc := 135) (As := [.int (-v13), .int (-v11), .int a3]) (rest := []) hC (c_X11_lowest l E (-v13) (-v11) a3 σ1 v16 hc) mi_X11_lowest ms_X11_lowest lk_X11_195 rfl rfl (Nat.le_of_ble_eq_true rfl) ⟨by decide, by decide⟩ hab dX11_fine_135 ?_
            refine g_goto (tgt := 149) (pc := 138) hC dX11_fine_138 (by decide) ?_
            refine g_mask [false, false, false, false, false, false, false, false, false, false] rfl ?_
            exact hJ149 v16 h
        · replace h := it_t c12 h
          refine g_iload_n (pc := 99) hC dX11_fine_99 rfl ?_
          obtain ⟨v19, ev19, h⟩ := lt_e h
          have hJ109 : Gd l E K 0 0 o σ1 109 [none, none, none, none, none, none, none, none, none, none] [.int v19] := by
            exact th_tr h
          refine g_if_eq (tgt := 107) (pc := 100) hC dX11_fine_100 (by decide) (fun c18 => ?_) (fun c18 => ?_)
          · refine g_iload (pc := 107) hC dX11_fine_107 rfl ?_
            refine g_mask [false, false, false, false, false, false, false, false, false, false] rfl ?_
            exact g_top (iv_t c18 ev19) hJ109
          · refine g_iconst (pc := 103) hC ki_1 dX11_fine_103 ?_
            refine g_goto (tgt := 109) (pc := 104) hC dX11_fine_104 (by decide) ?_
            refine g_mask [false, false, false, false, false, false, false, false, false, false] rfl ?_
            exact g_top (iv_f c18 ev19) hJ109
    refine g_if_eq (tgt := 36) (pc := 29) hC dX11_fine_29 (by decide) (fun c5 => ?_) (fun c5 => ?_)
    · refine g_iconst (pc := 36) hC ki_0 dX11_fine_36 ?_
      refine g_mask [true, true, false, true, true, false, false, false, false, false] rfl ?_
      exact g_top (iv_t c5 ev6) hJ37
    · refine g_iconst (pc := 32) hC ki_1 dX11_fine_32 ?_
      refine g_goto (tgt := 37) (pc := 33) hC dX11_fine_33 (by decide) ?_
      refine g_mask [true, true, false, true, true, false, false, false, false, false] rfl ?_
      exact g_top (iv_f c5 ev6) hJ37
set_option maxRecDepth 20000 in
theorem c_X11_cost (l : Launch) (E : uE) (a1 : Int32) (σ : uS) (r : Int32) (σr : uS) (h : F_X11_cost a1 σ = some (.inl r, σr)) : CtI l E yX11_cost cX11_cost 2 (some .int) 7 114 [.ref (E.2.1 0), .int a1] σ r σr := by
  refine enterI 0 [some (.ref (E.2.1 0)), some (.int a1)] (by decide +kernel) rfl (Nat.le_of_ble_eq_true rfl) (fun o K hnL hC hab hR => ?_)
  have hC : Cx E K RX11 cX11_cost (some .int) 7 114 := hC
  have hN : ∀ k, k < 2 → k < K.2.2.2.2.2 := fun k hk => hnL ▸ hk
  delta F_X11_cost at h
  refine g_iload_n (pc := 0) hC dX11_cost_0 rfl ?_
  have hJ14 : ∀ (v3 : Int32), J_X11_cost_2 a1 σ v3 = some (.inl r, σr) → Gd l E K 0 0 o σ 14 [some (.ref (E.2.1 0)), some (.int a1)] [.int v3] := by
    intro v3 h
    delta J_X11_cost_2 at h
    by_cases c4 : v3 = 0
    · replace h := it_t c4 h
      exact th_rt h
    · replace h := it_f c4 h
      refine g_callSv (pc := 14) (As := [.int v3]) (rest := []) hC (c_X11_need l E v3 σ c4) mi_X11_need ms_X11_need lk_X11_139 rfl rfl (Nat.le_of_ble_eq_true rfl) ⟨by decide, by decide⟩ hab dX11_cost_14 ?_
      refine g_aload_n (pc := 17) hC dX11_cost_17 rfl ?_
      obtain ⟨σ5, hc, h⟩ := cp_e h
      refine g_callVv (pc := 18) (As := []) (rest := []) hC (c_X11_findPath l E σ σ5 hc) mi_X11_findPath mv_X11_findPath ob_0 rfl rfl lk_X11_175 rfl rfl (Nat.le_of_ble_eq_true rfl) ⟨by decide, by decide⟩ hab dX11_cost_18 ?_
      refine g_aload_n (pc := 21) hC dX11_cost_21 rfl ?_
      refine fg_X11_46_0 (pc := 22) hC dX11_cost_22 ?_
      refine g_iload_n (pc := 25) hC dX11_cost_25 rfl ?_
      obtain ⟨v7, σ6, hc, h⟩ := cl_e h
      refine g_callVi (pc := 26) (As := [.int a1]) (rest := []) hC (c_X5_priceOf l E a1 σ5 v7 σ6 hc) mi_X5_priceOf mv_X5_priceOf ob_16 rfl rfl lk_X11_199 rfl rfl (Nat.le_of_ble_eq_true rfl) ⟨by decide, by decide⟩ hab dX11_cost_26 ?_
      exact g_rett (pc := 29) hC h hR dX11_cost_29
  have hJ13 : J_X11_cost_1 a1 σ = some (.inl r, σr) → Gd l E K 0 0 o σ 13 [some (.ref (E.2.1 0)), some (.int a1)] [] := by
    intro h
    delta J_X11_cost_1 at h
    refine g_iconst (pc := 13) hC ki_0 dX11_cost_13 ?_
    exact hJ14 0 h
  refine g_if_lt (tgt := 13) (pc := 1) hC dX11_cost_1 (by decide) (fun c1 => ?_) (fun c1 => ?_)
  · replace h := it_t c1 h
    exact hJ13 h
  · replace h := it_f c1 h
    refine g_iload_n (pc := 4) hC dX11_cost_4 rfl ?_
    refine g_iconst (pc := 5) hC ki_4 dX11_cost_5 ?_
    refine g_icmp_gt (tgt := 13) (pc := 6) hC dX11_cost_6 (by decide) (fun c2 => ?_) (fun c2 => ?_)
    · replace h := it_t c2 h
      exact hJ13 h
    · replace h := it_f c2 h
      refine g_iconst (pc := 9) hC ki_1 dX11_cost_9 ?_
      refine g_goto (tgt := 14) (pc := 10) hC dX11_cost_10 (by decide) ?_
      exact hJ14 1 h
set_option maxRecDepth 20000 in
theorem x_X11_cost (l : Launch) (hl9 : l.stackTraces = false) (E : uE) (a1 : Int32) (σ : uS) (kx : Nat) (σr : uS) (h : F_X11_cost a1 σ = some (.inr kx, σr)) : CtX l E yX11_cost cX11_cost 2 7 114 [.ref (E.2.1 0), .int a1] σ kx σr := by
  refine enterX 0 [some (.ref (E.2.1 0)), some (.int a1)] (by decide +kernel) rfl (Nat.le_of_ble_eq_true rfl) (fun o K hnL hC hab h6 hXt hR => ?_)
  have hC : Cx E K RX11 cX11_cost (some .int) 7 114 := hC
  have hN : ∀ k, k < 2 → k < K.2.2.2.2.2 := fun k hk => hnL ▸ hk
  delta F_X11_cost at h
  refine g_iload_n (pc := 0) hC dX11_cost_0 rfl ?_
  have hJ14 : ∀ (v3 : Int32), J_X11_cost_2 a1 σ v3 = some (.inr kx, σr) → Gd l E K 0 0 o σ 14 [some (.ref (E.2.1 0)), some (.int a1)] [.int v3] := by
    intro v3 h
    delta J_X11_cost_2 at h
    by_cases c4 : v3 = 0
    · replace h := it_t c4 h
      exact g_thr (pc := 14) (As := [.int v3]) (rest := []) hC (x_X11_need l hl9 E v3 σ c4) mi_X11_need ms_X11_need lk_X11_139 rfl rfl (Nat.le_of_ble_eq_true rfl) ⟨by decide, by decide⟩ h6 hXt h hR dX11_cost_14
    · replace h := it_f c4 h
      refine g_callSv (pc := 14) (As := [.int v3]) (rest := []) hC (c_X11_need l E v3 σ c4) mi_X11_need ms_X11_need lk_X11_139 rfl rfl (Nat.le_of_ble_eq_true rfl) ⟨by decide, by decide⟩ hab dX11_cost_14 ?_
      refine g_aload_n (pc := 17) hC dX11_cost_17 rfl ?_
      obtain ⟨σ5, hc, h⟩ := cp_e h
      refine g_callVv (pc := 18) (As := []) (rest := []) hC (c_X11_findPath l E σ σ5 hc) mi_X11_findPath mv_X11_findPath ob_0 rfl rfl lk_X11_175 rfl rfl (Nat.le_of_ble_eq_true rfl) ⟨by decide, by decide⟩ hab dX11_cost_18 ?_
      refine g_aload_n (pc := 21) hC dX11_cost_21 rfl ?_
      refine fg_X11_46_0 (pc := 22) hC dX11_cost_22 ?_
      refine g_iload_n (pc := 25) hC dX11_cost_25 rfl ?_
      obtain ⟨v7, σ6, hc, h⟩ := cl_e h
      refine g_callVi (pc := 26) (As := [.int a1]) (rest := []) hC (c_X5_priceOf l E a1 σ5 v7 σ6 hc) mi_X5_priceOf mv_X5_priceOf ob_16 rfl rfl lk_X11_199 rfl rfl (Nat.le_of_ble_eq_true rfl) ⟨by decide, by decide⟩ hab dX11_cost_26 ?_
      exact th_tr h
  have hJ13 : J_X11_cost_1 a1 σ = some (.inr kx, σr) → Gd l E K 0 0 o σ 13 [some (.ref (E.2.1 0)), some (.int a1)] [] := by
    intro h
    delta J_X11_cost_1 at h
    refine g_iconst (pc := 13) hC ki_0 dX11_cost_13 ?_
    exact hJ14 0 h
  refine g_if_lt (tgt := 13) (pc := 1) hC dX11_cost_1 (by decide) (fun c1 => ?_) (fun c1 => ?_)
  · replace h := it_t c1 h
    exact hJ13 h
  · replace h := it_f c1 h
    refine g_iload_n (pc := 4) hC dX11_cost_4 rfl ?_
    refine g_iconst (pc := 5) hC ki_4 dX11_cost_5 ?_
    refine g_icmp_gt (tgt := 13) (pc := 6) hC dX11_cost_6 (by decide) (fun c2 => ?_) (fun c2 => ?_)
    · replace h := it_t c2 h
      exact hJ13 h
    · replace h := it_f c2 h
      refine g_iconst (pc := 9) hC ki_1 dX11_cost_9 ?_
      refine g_goto (tgt := 14) (pc := 10) hC dX11_cost_10 (by decide) ?_
      exact hJ14 1 h
set_option maxRecDepth 20000 in
theorem c_X11_path (l : Launch) (E : uE) (a1 : Int32) (σ : uS) (r : Int32) (σr : uS) (h : F_X11_path a1 σ = some (.inl r, σr)) : CtI l E yX11_path cX11_path 2 (some .int) 7 114 [.ref (E.2.1 0), .int a1] σ r σr := by
  refine enterI 0 [some (.ref (E.2.1 0)), some (.int a1)] (by decide +kernel) rfl (Nat.le_of_ble_eq_true rfl) (fun o K hnL hC hab hR => ?_)
  have hC : Cx E K RX11 cX11_path (some .int) 7 114 := hC
  have hN : ∀ k, k < 2 → k < K.2.2.2.2.2 := fun k hk => hnL ▸ hk
  delta F_X11_path at h
  refine g_aload_n (pc := 0) hC dX11_path_0 rfl ?_
  refine fg_X11_28_0 (pc := 1) hC dX11_path_1 ?_
  refine g_iload_n (pc := 4) hC dX11_path_4 rfl ?_
  obtain ⟨v1, hc, h⟩ := cp_e h
  refine g_callVi (pc := 5) (As := [.int a1]) (rest := []) hC (c_X2_has l E a1 σ v1 hc) mi_X2_has mv_X2_has ob_6 rfl rfl lk_X11_159 rfl rfl (Nat.le_of_ble_eq_true rfl) ⟨by decide, by decide⟩ hab dX11_path_5 ?_
  by_cases c2 : v1 = 0
  · replace h := it_t c2 h
    exact th_rt h
  · replace h := it_f c2 h
    refine g_callSv (pc := 8) (As := [.int v1]) (rest := []) hC (c_X11_need l E v1 σ c2) mi_X11_need ms_X11_need lk_X11_139 rfl rfl (Nat.le_of_ble_eq_true rfl) ⟨by decide, by decide⟩ hab dX11_path_8 ?_
    refine g_aload_n (pc := 11) hC dX11_path_11 rfl ?_
    obtain ⟨σ3, hc, h⟩ := cp_e h
    refine g_callVv (pc := 12) (As := []) (rest := []) hC (c_X11_findPath l E σ σ3 hc) mi_X11_findPath mv_X11_findPath ob_0 rfl rfl lk_X11_175 rfl rfl (Nat.le_of_ble_eq_true rfl) ⟨by decide, by decide⟩ hab dX11_path_12 ?_
    refine g_aload_n (pc := 15) hC dX11_path_15 rfl ?_
    refine fg_X11_46_0 (pc := 16) hC dX11_path_16 ?_
    refine g_iload_n (pc := 19) hC dX11_path_19 rfl ?_
    obtain ⟨v4, hc, h⟩ := cp_e h
    refine g_callVi (pc := 20) (As := [.int a1]) (rest := []) hC (c_X5_chosenIn l E a1 σ3 v4 hc) mi_X5_chosenIn mv_X5_chosenIn ob_16 rfl rfl lk_X11_202 rfl rfl (Nat.le_of_ble_eq_true rfl) ⟨by decide, by decide⟩ hab dX11_path_20 ?_
    exact g_rett (pc := 23) hC h hR dX11_path_23
set_option maxRecDepth 20000 in
theorem x_X11_path (l : Launch) (hl9 : l.stackTraces = false) (E : uE) (a1 : Int32) (σ : uS) (kx : Nat) (σr : uS) (h : F_X11_path a1 σ = some (.inr kx, σr)) : CtX l E yX11_path cX11_path 2 7 114 [.ref (E.2.1 0), .int a1] σ kx σr := by
  refine enterX 0 [some (.ref (E.2.1 0)), some (.int a1)] (by decide +kernel) rfl (Nat.le_of_ble_eq_true rfl) (fun o K hnL hC hab h6 hXt hR => ?_)
  have hC : Cx E K RX11 cX11_path (some .int) 7 114 := hC
  have hN : ∀ k, k < 2 → k < K.2.2.2.2.2 := fun k hk => hnL ▸ hk
  delta F_X11_path at h
  refine g_aload_n (pc := 0) hC dX11_path_0 rfl ?_
  refine fg_X11_28_0 (pc := 1) hC dX11_path_1 ?_
  refine g_iload_n (pc := 4) hC dX11_path_4 rfl ?_
  obtain ⟨v1, hc, h⟩ := cp_e h
  refine g_callVi (pc := 5) (As := [.int a1]) (rest := []) hC (c_X2_has l E a1 σ v1 hc) mi_X2_has mv_X2_has ob_6 rfl rfl lk_X11_159 rfl rfl (Nat.le_of_ble_eq_true rfl) ⟨by decide, by decide⟩ hab dX11_path_5 ?_
  by_cases c2 : v1 = 0
  · replace h := it_t c2 h
    exact g_thr (pc := 8) (As := [.int v1]) (rest := []) hC (x_X11_need l hl9 E v1 σ c2) mi_X11_need ms_X11_need lk_X11_139 rfl rfl (Nat.le_of_ble_eq_true rfl) ⟨by decide, by decide⟩ h6 hXt h hR dX11_path_8
  · replace h := it_f c2 h
    refine g_callSv (pc := 8) (As := [.int v1]) (rest := []) hC (c_X11_need l E v1 σ c2) mi_X11_need ms_X11_need lk_X11_139 rfl rfl (Nat.le_of_ble_eq_true rfl) ⟨by decide, by decide⟩ hab dX11_path_8 ?_
    refine g_aload_n (pc := 11) hC dX11_path_11 rfl ?_
    obtain ⟨σ3, hc, h⟩ := cp_e h
    refine g_callVv (pc := 12) (As := []) (rest := []) hC (c_X11_findPath l E σ σ3 hc) mi_X11_findPath mv_X11_findPath ob_0 rfl rfl lk_X11_175 rfl rfl (Nat.le_of_ble_eq_true rfl) ⟨by decide, by decide⟩ hab dX11_path_12 ?_
    refine g_aload_n (pc := 15) hC dX11_path_15 rfl ?_
    refine fg_X11_46_0 (pc := 16) hC dX11_path_16 ?_
    refine g_iload_n (pc := 19) hC dX11_path_19 rfl ?_
    obtain ⟨v4, hc, h⟩ := cp_e h
    refine g_callVi (pc := 20) (As := [.int a1]) (rest := []) hC (c_X5_chosenIn l E a1 σ3 v4 hc) mi_X5_chosenIn mv_X5_chosenIn ob_16 rfl rfl lk_X11_202 rfl rfl (Nat.le_of_ble_eq_true rfl) ⟨by decide, by decide⟩ hab dX11_path_20 ?_
    exact th_tr h
set_option maxRecDepth 20000 in
theorem c_X11_lag (l : Launch) (E : uE) (a1 : Int32) (σ : uS) (r : Int32) (σr : uS) (h : F_X11_lag a1 σ = some (.inl r, σr)) : CtI l E yX11_lag cX11_lag 2 (some .int) 7 114 [.ref (E.2.1 0), .int a1] σ r σr := by
  refine enterI 0 [some (.ref (E.2.1 0)), some (.int a1)] (by decide +kernel) rfl (Nat.le_of_ble_eq_true rfl) (fun o K hnL hC hab hR => ?_)
  have hC : Cx E K RX11 cX11_lag (some .int) 7 114 := hC
  have hN : ∀ k, k < 2 → k < K.2.2.2.2.2 := fun k hk => hnL ▸ hk
  delta F_X11_lag at h
  refine g_aload_n (pc := 0) hC dX11_lag_0 rfl ?_
  refine fg_X11_28_0 (pc := 1) hC dX11_lag_1 ?_
  refine g_iload_n (pc := 4) hC dX11_lag_4 rfl ?_
  obtain ⟨v1, hc, h⟩ := cp_e h
  refine g_callVi (pc := 5) (As := [.int a1]) (rest := []) hC (c_X2_has l E a1 σ v1 hc) mi_X2_has mv_X2_has ob_6 rfl rfl lk_X11_159 rfl rfl (Nat.le_of_ble_eq_true rfl) ⟨by decide, by decide⟩ hab dX11_lag_5 ?_
  by_cases c2 : v1 = 0
  · replace h := it_t c2 h
    exact th_rt h
  · replace h := it_f c2 h
    refine g_callSv (pc := 8) (As := [.int v1]) (rest := []) hC (c_X11_need l E v1 σ c2) mi_X11_need ms_X11_need lk_X11_139 rfl rfl (Nat.le_of_ble_eq_true rfl) ⟨by decide, by decide⟩ hab dX11_lag_8 ?_
    refine g_aload_n (pc := 11) hC dX11_lag_11 rfl ?_
    obtain ⟨σ3, hc, h⟩ := cp_e h
    refine g_callVv (pc := 12) (As := []) (rest := []) hC (c_X11_findPath l E σ σ3 hc) mi_X11_findPath mv_X11_findPath ob_0 rfl rfl lk_X11_175 rfl rfl (Nat.le_of_ble_eq_true rfl) ⟨by decide, by decide⟩ hab dX11_lag_12 ?_
    refine g_aload_n (pc := 15) hC dX11_lag_15 rfl ?_
    refine fg_X11_46_0 (pc := 16) hC dX11_lag_16 ?_
    refine g_iload_n (pc := 19) hC dX11_lag_19 rfl ?_
    obtain ⟨v4, hc, h⟩ := cp_e h
    refine g_callVi (pc := 20) (As := [.int a1]) (rest := []) hC (c_X5_lagIn l E a1 σ3 v4 hc) mi_X5_lagIn mv_X5_lagIn ob_16 rfl rfl lk_X11_205 rfl rfl (Nat.le_of_ble_eq_true rfl) ⟨by decide, by decide⟩ hab dX11_lag_20 ?_
    exact g_rett (pc := 23) hC h hR dX11_lag_23
set_option maxRecDepth 20000 in
theorem x_X11_lag (l : Launch) (hl9 : l.stackTraces = false) (E : uE) (a1 : Int32) (σ : uS) (kx : Nat) (σr : uS) (h : F_X11_lag a1 σ = some (.inr kx, σr)) : CtX l E yX11_lag cX11_lag 2 7 114 [.ref (E.2.1 0), .int a1] σ kx σr := by
  refine enterX 0 [some (.ref (E.2.1 0)), some (.int a1)] (by decide +kernel) rfl (Nat.le_of_ble_eq_true rfl) (fun o K hnL hC hab h6 hXt hR => ?_)
  have hC : Cx E K RX11 cX11_lag (some .int) 7 114 := hC
  have hN : ∀ k, k < 2 → k < K.2.2.2.2.2 := fun k hk => hnL ▸ hk
  delta F_X11_lag at h
  refine g_aload_n (pc := 0) hC dX11_lag_0 rfl ?_
  refine fg_X11_28_0 (pc := 1) hC dX11_lag_1 ?_
  refine g_iload_n (pc := 4) hC dX11_lag_4 rfl ?_
  obtain ⟨v1, hc, h⟩ := cp_e h
  refine g_callVi (pc := 5) (As := [.int a1]) (rest := []) hC (c_X2_has l E a1 σ v1 hc) mi_X2_has mv_X2_has ob_6 rfl rfl lk_X11_159 rfl rfl (Nat.le_of_ble_eq_true rfl) ⟨by decide, by decide⟩ hab dX11_lag_5 ?_
  by_cases c2 : v1 = 0
  · replace h := it_t c2 h
    exact g_thr (pc := 8) (As := [.int v1]) (rest := []) hC (x_X11_need l hl9 E v1 σ c2) mi_X11_need ms_X11_need lk_X11_139 rfl rfl (Nat.le_of_ble_eq_true rfl) ⟨by decide, by decide⟩ h6 hXt h hR dX11_lag_8
  · replace h := it_f c2 h
    refine g_callSv (pc := 8) (As := [.int v1]) (rest := []) hC (c_X11_need l E v1 σ c2) mi_X11_need ms_X11_need lk_X11_139 rfl rfl (Nat.le_of_ble_eq_true rfl) ⟨by decide, by decide⟩ hab dX11_lag_8 ?_
    refine g_aload_n (pc := 11) hC dX11_lag_11 rfl ?_
    obtain ⟨σ3, hc, h⟩ := cp_e h
    refine g_callVv (pc := 12) (As := []) (rest := []) hC (c_X11_findPath l E σ σ3 hc) mi_X11_findPath mv_X11_findPath ob_0 rfl rfl lk_X11_175 rfl rfl (Nat.le_of_ble_eq_true rfl) ⟨by decide, by decide⟩ hab dX11_lag_12 ?_
    refine g_aload_n (pc := 15) hC dX11_lag_15 rfl ?_
    refine fg_X11_46_0 (pc := 16) hC dX11_lag_16 ?_
    refine g_iload_n (pc := 19) hC dX11_lag_19 rfl ?_
    obtain ⟨v4, hc, h⟩ := cp_e h
    refine g_callVi (pc := 20) (As := [.int a1]) (rest := []) hC (c_X5_lagIn l E a1 σ3 v4 hc) mi_X5_lagIn mv_X5_lagIn ob_16 rfl rfl lk_X11_205 rfl rfl (Nat.le_of_ble_eq_true rfl) ⟨by decide, by decide⟩ hab dX11_lag_20 ?_
    exact th_tr h
set_option maxRecDepth 20000 in
theorem c_X11_through (l : Launch) (E : uE) (a1 : Int32) (a2 : Int32) (σ : uS) (r : Int32) (σr : uS) (h : F_X11_through a1 a2 σ = some (.inl r, σr)) : CtI l E yX11_through cX11_through 3 (some .int) 7 114 [.ref (E.2.1 0), .int a1, .int a2] σ r σr := by
  refine enterI 0 [some (.ref (E.2.1 0)), some (.int a1), some (.int a2)] (by decide +kernel) rfl (Nat.le_of_ble_eq_true rfl) (fun o K hnL hC hab hR => ?_)
  have hC : Cx E K RX11 cX11_through (some .int) 7 114 := hC
  have hN : ∀ k, k < 3 → k < K.2.2.2.2.2 := fun k hk => hnL ▸ hk
  delta F_X11_through at h
  refine g_aload_n (pc := 0) hC dX11_through_0 rfl ?_
  obtain ⟨σ1, hc, h⟩ := cp_e h
  refine g_callVv (pc := 1) (As := []) (rest := []) hC (c_X11_findPath l E σ σ1 hc) mi_X11_findPath mv_X11_findPath ob_0 rfl rfl lk_X11_175 rfl rfl (Nat.le_of_ble_eq_true rfl) ⟨by decide, by decide⟩ hab dX11_through_1 ?_
  refine g_aload_n (pc := 4) hC dX11_through_4 rfl ?_
  refine fg_X11_37_0 (pc := 5) hC dX11_through_5 ?_
  refine g_iload_n (pc := 8) hC dX11_through_8 rfl ?_
  refine g_iload_n (pc := 9) hC dX11_through_9 rfl ?_
  obtain ⟨v2, hc, h⟩ := cp_e h
  refine g_callVi (pc := 10) (As := [.int a1, .int a2]) (rest := []) hC (c_X1_has l E a1 a2 σ1 v2 hc) mi_X1_has mv_X1_has ob_11 rfl rfl lk_X11_181 rfl rfl (Nat.le_of_ble_eq_true rfl) ⟨by decide, by decide⟩ hab dX11_through_10 ?_
  by_cases c3 : v2 = 0
  · replace h := it_t c3 h
    exact th_rt h
  · replace h := it_f c3 h
    refine g_callSv (pc := 13) (As := [.int v2]) (rest := []) hC (c_X11_need l E v2 σ1 c3) mi_X11_need ms_X11_need lk_X11_139 rfl rfl (Nat.le_of_ble_eq_true rfl) ⟨by decide, by decide⟩ hab dX11_through_13 ?_
    refine g_aload_n (pc := 16) hC dX11_through_16 rfl ?_
    refine fg_X11_46_0 (pc := 17) hC dX11_through_17 ?_
    refine g_iload_n (pc := 20) hC dX11_through_20 rfl ?_
    refine g_iload_n (pc := 21) hC dX11_through_21 rfl ?_
    obtain ⟨v4, hc, h⟩ := cp_e h
    refine g_callVi (pc := 22) (As := [.int a1, .int a2]) (rest := []) hC (c_X5_leastThrough l E a1 a2 σ1 v4 hc) mi_X5_leastThrough mv_X5_leastThrough ob_16 rfl rfl lk_X11_208 rfl rfl (Nat.le_of_ble_eq_true rfl) ⟨by decide, by decide⟩ hab dX11_through_22 ?_
    exact g_rett (pc := 25) hC h hR dX11_through_25
set_option maxRecDepth 20000 in
theorem x_X11_through (l : Launch) (hl9 : l.stackTraces = false) (E : uE) (a1 : Int32) (a2 : Int32) (σ : uS) (kx : Nat) (σr : uS) (h : F_X11_through a1 a2 σ = some (.inr kx, σr)) : CtX l E yX11_through cX11_through 3 7 114 [.ref (E.2.1 0), .int a1, .int a2] σ kx σr := by
  refine enterX 0 [some (.ref (E.2.1 0)), some (.int a1), some (.int a2)] (by decide +kernel) rfl (Nat.le_of_ble_eq_true rfl) (fun o K hnL hC hab h6 hXt hR => ?_)
  have hC : Cx E K RX11 cX11_through (some .int) 7 114 := hC
  have hN : ∀ k, k < 3 → k < K.2.2.2.2.2 := fun k hk => hnL ▸ hk
  delta F_X11_through at h
  refine g_aload_n (pc := 0) hC dX11_through_0 rfl ?_
  obtain ⟨σ1, hc, h⟩ := cp_e h
  refine g_callVv (pc := 1) (As := []) (rest := []) hC (c_X11_findPath l E σ σ1 hc) mi_X11_findPath mv_X11_findPath ob_0 rfl rfl lk_X11_175 rfl rfl (Nat.le_of_ble_eq_true rfl) ⟨by decide, by decide⟩ hab dX11_through_1 ?_
  refine g_aload_n (pc := 4) hC dX11_through_4 rfl ?_
  refine fg_X11_37_0 (pc := 5) hC dX11_through_5 ?_
  refine g_iload_n (pc := 8) hC dX11_through_8 rfl ?_
  refine g_iload_n (pc := 9) hC dX11_through_9 rfl ?_
  obtain ⟨v2, hc, h⟩ := cp_e h
  refine g_callVi (pc := 10) (As := [.int a1, .int a2]) (rest := []) hC (c_X1_has l E a1 a2 σ1 v2 hc) mi_X1_has mv_X1_has ob_11 rfl rfl lk_X11_181 rfl rfl (Nat.le_of_ble_eq_true rfl) ⟨by decide, by decide⟩ hab dX11_through_10 ?_
  by_cases c3 : v2 = 0
  · replace h := it_t c3 h
    exact g_thr (pc := 13) (As := [.int v2]) (rest := []) hC (x_X11_need l hl9 E v2 σ1 c3) mi_X11_need ms_X11_need lk_X11_139 rfl rfl (Nat.le_of_ble_eq_true rfl) ⟨by decide, by decide⟩ h6 hXt h hR dX11_through_13
  · replace h := it_f c3 h
    refine g_callSv (pc := 13) (As := [.int v2]) (rest := []) hC (c_X11_need l E v2 σ1 c3) mi_X11_need ms_X11_need lk_X11_139 rfl rfl (Nat.le_of_ble_eq_true rfl) ⟨by decide, by decide⟩ hab dX11_through_13 ?_
    refine g_aload_n (pc := 16) hC dX11_through_16 rfl ?_
    refine fg_X11_46_0 (pc := 17) hC dX11_through_17 ?_
    refine g_iload_n (pc := 20) hC dX11_through_20 rfl ?_
    refine g_iload_n (pc := 21) hC dX11_through_21 rfl ?_
    obtain ⟨v4, hc, h⟩ := cp_e h
    refine g_callVi (pc := 22) (As := [.int a1, .int a2]) (rest := []) hC (c_X5_leastThrough l E a1 a2 σ1 v4 hc) mi_X5_leastThrough mv_X5_leastThrough ob_16 rfl rfl lk_X11_208 rfl rfl (Nat.le_of_ble_eq_true rfl) ⟨by decide, by decide⟩ hab dX11_through_22 ?_
    exact th_tr h
set_option maxRecDepth 20000 in
theorem c_X11_both (l : Launch) (E : uE) (a1 : Int32) (a2 : Int32) (a3 : Int32) (a4 : Int32) (σ : uS) (r : Int32) (σr : uS) (h : F_X11_both a1 a2 a3 a4 σ = some (.inl r, σr)) : CtI l E yX11_both cX11_both 5 (some .int) 7 114 [.ref (E.2.1 0), .int a1, .int a2, .int a3, .int a4] σ r σr := by
  refine enterI 0 [some (.ref (E.2.1 0)), some (.int a1), some (.int a2), some (.int a3), some (.int a4)] (by decide +kernel) rfl (Nat.le_of_ble_eq_true rfl) (fun o K hnL hC hab hR => ?_)
  have hC : Cx E K RX11 cX11_both (some .int) 7 114 := hC
  have hN : ∀ k, k < 5 → k < K.2.2.2.2.2 := fun k hk => hnL ▸ hk
  delta F_X11_both at h
  refine g_aload_n (pc := 0) hC dX11_both_0 rfl ?_
  obtain ⟨σ1, hc, h⟩ := cp_e h
  refine g_callVv (pc := 1) (As := []) (rest := []) hC (c_X11_findPath l E σ σ1 hc) mi_X11_findPath mv_X11_findPath ob_0 rfl rfl lk_X11_175 rfl rfl (Nat.le_of_ble_eq_true rfl) ⟨by decide, by decide⟩ hab dX11_both_1 ?_
  refine g_aload_n (pc := 4) hC dX11_both_4 rfl ?_
  refine fg_X11_37_0 (pc := 5) hC dX11_both_5 ?_
  refine g_iload_n (pc := 8) hC dX11_both_8 rfl ?_
  refine g_iload_n (pc := 9) hC dX11_both_9 rfl ?_
  obtain ⟨v2, hc, h⟩ := cp_e h
  refine g_callVi (pc := 10) (As := [.int a1, .int a2]) (rest := []) hC (c_X1_has l E a1 a2 σ1 v2 hc) mi_X1_has mv_X1_has ob_11 rfl rfl lk_X11_181 rfl rfl (Nat.le_of_ble_eq_true rfl) ⟨by decide, by decide⟩ hab dX11_both_10 ?_
  by_cases c3 : v2 = 0
  · replace h := it_t c3 h
    exact th_rt h
  · replace h := it_f c3 h
    refine g_callSv (pc := 13) (As := [.int v2]) (rest := []) hC (c_X11_need l E v2 σ1 c3) mi_X11_need ms_X11_need lk_X11_139 rfl rfl (Nat.le_of_ble_eq_true rfl) ⟨by decide, by decide⟩ hab dX11_both_13 ?_
    refine g_aload_n (pc := 16) hC dX11_both_16 rfl ?_
    refine fg_X11_37_0 (pc := 17) hC dX11_both_17 ?_
    refine g_iload_n (pc := 20) hC dX11_both_20 rfl ?_
    refine g_iload (pc := 21) hC dX11_both_21 rfl ?_
    obtain ⟨v4, hc, h⟩ := cp_e h
    refine g_callVi (pc := 23) (As := [.int a3, .int a4]) (rest := []) hC (c_X1_has l E a3 a4 σ1 v4 hc) mi_X1_has mv_X1_has ob_11 rfl rfl lk_X11_181 rfl rfl (Nat.le_of_ble_eq_true rfl) ⟨by decide, by decide⟩ hab dX11_both_23 ?_
    by_cases c5 : v4 = 0
    · replace h := it_t c5 h
      exact th_rt h
    · replace h := it_f c5 h
      refine g_callSv (pc := 26) (As := [.int v4]) (rest := []) hC (c_X11_need l E v4 σ1 c5) mi_X11_need ms_X11_need lk_X11_139 rfl rfl (Nat.le_of_ble_eq_true rfl) ⟨by decide, by decide⟩ hab dX11_both_26 ?_
      refine g_iload_n (pc := 29) hC dX11_both_29 rfl ?_
      refine g_iload_n (pc := 30) hC dX11_both_30 rfl ?_
      obtain ⟨v7, ev7, h⟩ := lt_e h
      have hJ39 : Gd l E K 0 0 o σ1 39 [some (.ref (E.2.1 0)), some (.int a1), some (.int a2), some (.int a3), some (.int a4)] [.int v7] := by
        by_cases c8 : v7 = 0
        · replace h := it_t c8 h
          exact th_rt h
        · replace h := it_f c8 h
          refine g_callSv (pc := 39) (As := [.int v7]) (rest := []) hC (c_X11_allow l E v7 σ1 c8) mi_X11_allow ms_X11_allow lk_X11_211 rfl rfl (Nat.le_of_ble_eq_true rfl) ⟨by decide, by decide⟩ hab dX11_both_39 ?_
          refine g_aload_n (pc := 42) hC dX11_both_42 rfl ?_
          refine fg_X11_46_0 (pc := 43) hC dX11_both_43 ?_
          refine g_iload_n (pc := 46) hC dX11_both_46 rfl ?_
          refine g_iload_n (pc := 47) hC dX11_both_47 rfl ?_
          refine g_iload_n (pc := 48) hC dX11_both_48 rfl ?_
          refine g_iload (pc := 49) hC dX11_both_49 rfl ?_
          obtain ⟨v10, σ9, hc, h⟩ := cl_e h
          refine g_callVi (pc := 51) (As := [.int a1, .int a2, .int a3, .int a4]) (rest := []) hC (c_X5_leastThroughTwo l E a1 a2 a3 a4 σ1 v10 σ9 hc) mi_X5_leastThroughTwo mv_X5_leastThroughTwo ob_16 rfl rfl lk_X11_214 rfl rfl (Nat.le_of_ble_eq_true rfl) ⟨by decide, by decide⟩ hab dX11_both_51 ?_
          exact g_rett (pc := 54) hC h hR dX11_both_54
      refine g_icmp_le (tgt := 38) (pc := 31) hC dX11_both_31 (by decide) (fun c6 => ?_) (fun c6 => ?_)
      · refine g_iconst (pc := 38) hC ki_0 dX11_both_38 ?_
        exact g_top (iv_t c6 ev7) hJ39
      · refine g_iconst (pc := 34) hC ki_1 dX11_both_34 ?_
        refine g_goto (tgt := 39) (pc := 35) hC dX11_both_35 (by decide) ?_
        exact g_top (iv_f c6 ev7) hJ39
set_option maxRecDepth 20000 in
theorem x_X11_both (l : Launch) (hl9 : l.stackTraces = false) (E : uE) (a1 : Int32) (a2 : Int32) (a3 : Int32) (a4 : Int32) (σ : uS) (kx : Nat) (σr : uS) (h : F_X11_both a1 a2 a3 a4 σ = some (.inr kx, σr)) : CtX l E yX11_both cX11_both 5 7 114 [.ref (E.2.1 0), .int a1, .int a2, .int a3, .int a4] σ kx σr := by
  refine enterX 0 [some (.ref (E.2.1 0)), some (.int a1), some (.int a2), some (.int a3), some (.int a4)] (by decide +kernel) rfl (Nat.le_of_ble_eq_true rfl) (fun o K hnL hC hab h6 hXt hR => ?_)
  have hC : Cx E K RX11 cX11_both (some .int) 7 114 := hC
  have hN : ∀ k, k < 5 → k < K.2.2.2.2.2 := fun k hk => hnL ▸ hk
  delta F_X11_both at h
  refine g_aload_n (pc := 0) hC dX11_both_0 rfl ?_
  obtain ⟨σ1, hc, h⟩ := cp_e h
  refine g_callVv (pc := 1) (As := []) (rest := []) hC (c_X11_findPath l E σ σ1 hc) mi_X11_findPath mv_X11_findPath ob_0 rfl rfl lk_X11_175 rfl rfl (Nat.le_of_ble_eq_true rfl) ⟨by decide, by decide⟩ hab dX11_both_1 ?_
  refine g_aload_n (pc := 4) hC dX11_both_4 rfl ?_
  refine fg_X11_37_0 (pc := 5) hC dX11_both_5 ?_
  refine g_iload_n (pc := 8) hC dX11_both_8 rfl ?_
  refine g_iload_n (pc := 9) hC dX11_both_9 rfl ?_
  obtain ⟨v2, hc, h⟩ := cp_e h
  refine g_callVi (pc := 10) (As := [.int a1, .int a2]) (rest := []) hC (c_X1_has l E a1 a2 σ1 v2 hc) mi_X1_has mv_X1_has ob_11 rfl rfl lk_X11_181 rfl rfl (Nat.le_of_ble_eq_true rfl) ⟨by decide, by decide⟩ hab dX11_both_10 ?_
  by_cases c3 : v2 = 0
  · replace h := it_t c3 h
    exact g_thr (pc := 13) (As := [.int v2]) (rest := []) hC (x_X11_need l hl9 E v2 σ1 c3) mi_X11_need ms_X11_need lk_X11_139 rfl rfl (Nat.le_of_ble_eq_true rfl) ⟨by decide, by decide⟩ h6 hXt h hR dX11_both_13
  · replace h := it_f c3 h
    refine g_callSv (pc := 13) (As := [.int v2]) (rest := []) hC (c_X11_need l E v2 σ1 c3) mi_X11_need ms_X11_need lk_X11_139 rfl rfl (Nat.le_of_ble_eq_true rfl) ⟨by decide, by decide⟩ hab dX11_both_13 ?_
    refine g_aload_n (pc := 16) hC dX11_both_16 rfl ?_
    refine fg_X11_37_0 (pc := 17) hC dX11_both_17 ?_
    refine g_iload_n (pc := 20) hC dX11_both_20 rfl ?_
    refine g_iload (pc := 21) hC dX11_both_21 rfl ?_
    obtain ⟨v4, hc, h⟩ := cp_e h
    refine g_callVi (pc := 23) (As := [.int a3, .int a4]) (rest := []) hC (c_X1_has l E a3 a4 σ1 v4 hc) mi_X1_has mv_X1_has ob_11 rfl rfl lk_X11_181 rfl rfl (Nat.le_of_ble_eq_true rfl) ⟨by decide, by decide⟩ hab dX11_both_23 ?_
    by_cases c5 : v4 = 0
    · replace h := it_t c5 h
      exact g_thr (pc := 26) (As := [.int v4]) (rest := []) hC (x_X11_need l hl9 E v4 σ1 c5) mi_X11_need ms_X11_need lk_X11_139 rfl rfl (Nat.le_of_ble_eq_true rfl) ⟨by decide, by decide⟩ h6 hXt h hR dX11_both_26
    · replace h := it_f c5 h
      refine g_callSv (pc := 26) (As := [.int v4]) (rest := []) hC (c_X11_need l E v4 σ1 c5) mi_X11_need ms_X11_need lk_X11_139 rfl rfl (Nat.le_of_ble_eq_true rfl) ⟨by decide, by decide⟩ hab dX11_both_26 ?_
      refine g_iload_n (pc := 29) hC dX11_both_29 rfl ?_
      refine g_iload_n (pc := 30) hC dX11_both_30 rfl ?_
      obtain ⟨v7, ev7, h⟩ := lt_e h
      have hJ39 : Gd l E K 0 0 o σ1 39 [some (.ref (E.2.1 0)), some (.int a1), some (.int a2), some (.int a3), some (.int a4)] [.int v7] := by
        by_cases c8 : v7 = 0
        · replace h := it_t c8 h
          exact g_thr (pc := 39) (As := [.int v7]) (rest := []) hC (x_X11_allow l hl9 E v7 σ1 c8) mi_X11_allow ms_X11_allow lk_X11_211 rfl rfl (Nat.le_of_ble_eq_true rfl) ⟨by decide, by decide⟩ h6 hXt h hR dX11_both_39
        · replace h := it_f c8 h
          refine g_callSv (pc := 39) (As := [.int v7]) (rest := []) hC (c_X11_allow l E v7 σ1 c8) mi_X11_allow ms_X11_allow lk_X11_211 rfl rfl (Nat.le_of_ble_eq_true rfl) ⟨by decide, by decide⟩ hab dX11_both_39 ?_
          refine g_aload_n (pc := 42) hC dX11_both_42 rfl ?_
          refine fg_X11_46_0 (pc := 43) hC dX11_both_43 ?_
          refine g_iload_n (pc := 46) hC dX11_both_46 rfl ?_
          refine g_iload_n (pc := 47) hC dX11_both_47 rfl ?_
          refine g_iload_n (pc := 48) hC dX11_both_48 rfl ?_
          refine g_iload (pc := 49) hC dX11_both_49 rfl ?_
          obtain ⟨v10, σ9, hc, h⟩ := cl_e h
          refine g_callVi (pc := 51) (As := [.int a1, .int a2, .int a3, .int a4]) (rest := []) hC (c_X5_leastThroughTwo l E a1 a2 a3 a4 σ1 v10 σ9 hc) mi_X5_leastThroughTwo mv_X5_leastThroughTwo ob_16 rfl rfl lk_X11_214 rfl rfl (Nat.le_of_ble_eq_true rfl) ⟨by decide, by decide⟩ hab dX11_both_51 ?_
          exact th_tr h
      refine g_icmp_le (tgt := 38) (pc := 31) hC dX11_both_31 (by decide) (fun c6 => ?_) (fun c6 => ?_)
      · refine g_iconst (pc := 38) hC ki_0 dX11_both_38 ?_
        exact g_top (iv_t c6 ev7) hJ39
      · refine g_iconst (pc := 34) hC ki_1 dX11_both_34 ?_
        refine g_goto (tgt := 39) (pc := 35) hC dX11_both_35 (by decide) ?_
        exact g_top (iv_f c6 ev7) hJ39
set_option maxRecDepth 20000 in
theorem c_X11_live (l : Launch) (E : uE) (a1 : Int32) (a2 : Int32) (σ : uS) (r : Int32) (σr : uS) (h : F_X11_live a1 a2 σ = some (.inl r, σr)) : CtI l E yX11_live cX11_live 3 (some .int) 7 114 [.ref (E.2.1 0), .int a1, .int a2] σ r σr := by
  refine enterI 0 [some (.ref (E.2.1 0)), some (.int a1), some (.int a2)] (by decide +kernel) rfl (Nat.le_of_ble_eq_true rfl) (fun o K hnL hC hab hR => ?_)
  have hC : Cx E K RX11 cX11_live (some .int) 7 114 := hC
  have hN : ∀ k, k < 3 → k < K.2.2.2.2.2 := fun k hk => hnL ▸ hk
  delta F_X11_live at h
  refine g_aload_n (pc := 0) hC dX11_live_0 rfl ?_
  refine fg_X11_28_0 (pc := 1) hC dX11_live_1 ?_
  refine g_iload_n (pc := 4) hC dX11_live_4 rfl ?_
  obtain ⟨v1, hc, h⟩ := cp_e h
  refine g_callVi (pc := 5) (As := [.int a1]) (rest := []) hC (c_X2_has l E a1 σ v1 hc) mi_X2_has mv_X2_has ob_6 rfl rfl lk_X11_159 rfl rfl (Nat.le_of_ble_eq_true rfl) ⟨by decide, by decide⟩ hab dX11_live_5 ?_
  by_cases c2 : v1 = 0
  · replace h := it_t c2 h
    exact th_rt h
  · replace h := it_f c2 h
    refine g_callSv (pc := 8) (As := [.int v1]) (rest := []) hC (c_X11_need l E v1 σ c2) mi_X11_need ms_X11_need lk_X11_139 rfl rfl (Nat.le_of_ble_eq_true rfl) ⟨by decide, by decide⟩ hab dX11_live_8 ?_
    refine g_aload_n (pc := 11) hC dX11_live_11 rfl ?_
    obtain ⟨σ3, hc, h⟩ := cp_e h
    refine g_callVv (pc := 12) (As := []) (rest := []) hC (c_X11_findPath l E σ σ3 hc) mi_X11_findPath mv_X11_findPath ob_0 rfl rfl lk_X11_175 rfl rfl (Nat.le_of_ble_eq_true rfl) ⟨by decide, by decide⟩ hab dX11_live_12 ?_
    refine g_iload_n (pc := 15) hC dX11_live_15 rfl ?_
    have hJ30 : ∀ (v6 : Int32), J_X11_live_2 a1 a2 σ3 v6 = some (.inl r, σr) → Gd l E K 0 0 o σ3 30 [some (.ref (E.2.1 0)), some (.int a1), some (.int a2)] [.int v6] := by
      intro v6 h
      delta J_X11_live_2 at h
      by_cases c7 : v6 = 0
      · replace h := it_t c7 h
        exact th_rt h
      · replace h := it_f c7 h
        refine g_callSv (pc := 30) (As := [.int v6]) (rest := []) hC (c_X11_allow l E v6 σ3 c7) mi_X11_allow ms_X11_allow lk_X11_211 rfl rfl (Nat.le_of_ble_eq_true rfl) ⟨by decide, by decide⟩ hab dX11_live_30 ?_
        refine g_aload_n (pc := 33) hC dX11_live_33 rfl ?_
        refine fg_X11_46_0 (pc := 34) hC dX11_live_34 ?_
        refine g_iload_n (pc := 37) hC dX11_live_37 rfl ?_
        refine g_iload_n (pc := 38) hC dX11_live_38 rfl ?_
        obtain ⟨v8, hc, h⟩ := cp_e h
        refine g_callVi (pc := 39) (As := [.int a1, .int a2]) (rest := []) hC (c_X5_chosenLive l E a1 a2 σ3 v8 hc) mi_X5_chosenLive mv_X5_chosenLive ob_16 rfl rfl lk_X11_221 rfl rfl (Nat.le_of_ble_eq_true rfl) ⟨by decide, by decide⟩ hab dX11_live_39 ?_
        exact g_rett (pc := 42) hC h hR dX11_live_42
    have hJ29 : J_X11_live_1 a1 a2 σ3 = some (.inl r, σr) → Gd l E K 0 0 o σ3 29 [some (.ref (E.2.1 0)), some (.int a1), some (.int a2)] [] := by
      intro h
      delta J_X11_live_1 at h
      refine g_iconst (pc := 29) hC ki_0 dX11_live_29 ?_
      exact hJ30 0 h
    refine g_if_lt (tgt := 29) (pc := 16) hC dX11_live_16 (by decide) (fun c4 => ?_) (fun c4 => ?_)
    · replace h := it_t c4 h
      exact hJ29 h
    · replace h := it_f c4 h
      refine g_iload_n (pc := 19) hC dX11_live_19 rfl ?_
      refine g_bipush (pc := 20) hC kb_20 dX11_live_20 ?_
      refine g_icmp_gt (tgt := 29) (pc := 22) hC dX11_live_22 (by decide) (fun c5 => ?_) (fun c5 => ?_)
      · replace h := it_t c5 h
        exact hJ29 h
      · replace h := it_f c5 h
        refine g_iconst (pc := 25) hC ki_1 dX11_live_25 ?_
        refine g_goto (tgt := 30) (pc := 26) hC dX11_live_26 (by decide) ?_
        exact hJ30 1 h
set_option maxRecDepth 20000 in
theorem x_X11_live (l : Launch) (hl9 : l.stackTraces = false) (E : uE) (a1 : Int32) (a2 : Int32) (σ : uS) (kx : Nat) (σr : uS) (h : F_X11_live a1 a2 σ = some (.inr kx, σr)) : CtX l E yX11_live cX11_live 3 7 114 [.ref (E.2.1 0), .int a1, .int a2] σ kx σr := by
  refine enterX 0 [some (.ref (E.2.1 0)), some (.int a1), some (.int a2)] (by decide +kernel) rfl (Nat.le_of_ble_eq_true rfl) (fun o K hnL hC hab h6 hXt hR => ?_)
  have hC : Cx E K RX11 cX11_live (some .int) 7 114 := hC
  have hN : ∀ k, k < 3 → k < K.2.2.2.2.2 := fun k hk => hnL ▸ hk
  delta F_X11_live at h
  refine g_aload_n (pc := 0) hC dX11_live_0 rfl ?_
  refine fg_X11_28_0 (pc := 1) hC dX11_live_1 ?_
  refine g_iload_n (pc := 4) hC dX11_live_4 rfl ?_
  obtain ⟨v1, hc, h⟩ := cp_e h
  refine g_callVi (pc := 5) (As := [.int a1]) (rest := []) hC (c_X2_has l E a1 σ v1 hc) mi_X2_has mv_X2_has ob_6 rfl rfl lk_X11_159 rfl rfl (Nat.le_of_ble_eq_true rfl) ⟨by decide, by decide⟩ hab dX11_live_5 ?_
  by_cases c2 : v1 = 0
  · replace h := it_t c2 h
    exact g_thr (pc := 8) (As := [.int v1]) (rest := []) hC (x_X11_need l hl9 E v1 σ c2) mi_X11_need ms_X11_need lk_X11_139 rfl rfl (Nat.le_of_ble_eq_true rfl) ⟨by decide, by decide⟩ h6 hXt h hR dX11_live_8
  · replace h := it_f c2 h
    refine g_callSv (pc := 8) (As := [.int v1]) (rest := []) hC (c_X11_need l E v1 σ c2) mi_X11_need ms_X11_need lk_X11_139 rfl rfl (Nat.le_of_ble_eq_true rfl) ⟨by decide, by decide⟩ hab dX11_live_8 ?_
    refine g_aload_n (pc := 11) hC dX11_live_11 rfl ?_
    obtain ⟨σ3, hc, h⟩ := cp_e h
    refine g_callVv (pc := 12) (As := []) (rest := []) hC (c_X11_findPath l E σ σ3 hc) mi_X11_findPath mv_X11_findPath ob_0 rfl rfl lk_X11_175 rfl rfl (Nat.le_of_ble_eq_true rfl) ⟨by decide, by decide⟩ hab dX11_live_12 ?_
    refine g_iload_n (pc := 15) hC dX11_live_15 rfl ?_
    have hJ30 : ∀ (v6 : Int32), J_X11_live_2 a1 a2 σ3 v6 = some (.inr kx, σr) → Gd l E K 0 0 o σ3 30 [some (.ref (E.2.1 0)), some (.int a1), some (.int a2)] [.int v6] := by
      intro v6 h
      delta J_X11_live_2 at h
      by_cases c7 : v6 = 0
      · replace h := it_t c7 h
        exact g_thr (pc := 30) (As := [.int v6]) (rest := []) hC (x_X11_allow l hl9 E v6 σ3 c7) mi_X11_allow ms_X11_allow lk_X11_211 rfl rfl (Nat.le_of_ble_eq_true rfl) ⟨by decide, by decide⟩ h6 hXt h hR dX11_live_30
      · replace h := it_f c7 h
        refine g_callSv (pc := 30) (As := [.int v6]) (rest := []) hC (c_X11_allow l E v6 σ3 c7) mi_X11_allow ms_X11_allow lk_X11_211 rfl rfl (Nat.le_of_ble_eq_true rfl) ⟨by decide, by decide⟩ hab dX11_live_30 ?_
        refine g_aload_n (pc := 33) hC dX11_live_33 rfl ?_
        refine fg_X11_46_0 (pc := 34) hC dX11_live_34 ?_
        refine g_iload_n (pc := 37) hC dX11_live_37 rfl ?_
        refine g_iload_n (pc := 38) hC dX11_live_38 rfl ?_
        obtain ⟨v8, hc, h⟩ := cp_e h
        refine g_callVi (pc := 39) (As := [.int a1, .int a2]) (rest := []) hC (c_X5_chosenLive l E a1 a2 σ3 v8 hc) mi_X5_chosenLive mv_X5_chosenLive ob_16 rfl rfl lk_X11_221 rfl rfl (Nat.le_of_ble_eq_true rfl) ⟨by decide, by decide⟩ hab dX11_live_39 ?_
        exact th_tr h
    have hJ29 : J_X11_live_1 a1 a2 σ3 = some (.inr kx, σr) → Gd l E K 0 0 o σ3 29 [some (.ref (E.2.1 0)), some (.int a1), some (.int a2)] [] := by
      intro h
      delta J_X11_live_1 at h
      refine g_iconst (pc := 29) hC ki_0 dX11_live_29 ?_
      exact hJ30 0 h
    refine g_if_lt (tgt := 29) (pc := 16) hC dX11_live_16 (by decide) (fun c4 => ?_) (fun c4 => ?_)
    · replace h := it_t c4 h
      exact hJ29 h
    · replace h := it_f c4 h
      refine g_iload_n (pc := 19) hC dX11_live_19 rfl ?_
      refine g_bipush (pc := 20) hC kb_20 dX11_live_20 ?_
      refine g_icmp_gt (tgt := 29) (pc := 22) hC dX11_live_22 (by decide) (fun c5 => ?_) (fun c5 => ?_)
      · replace h := it_t c5 h
        exact hJ29 h
      · replace h := it_f c5 h
        refine g_iconst (pc := 25) hC ki_1 dX11_live_25 ?_
        refine g_goto (tgt := 30) (pc := 26) hC dX11_live_26 (by decide) ?_
        exact hJ30 1 h
set_option maxRecDepth 20000 in
theorem c_X11_settles (l : Launch) (E : uE) (a1 : Int32) (σ : uS) (r : Int32) (σr : uS) (h : F_X11_settles a1 σ = some (.inl r, σr)) : CtI l E yX11_settles cX11_settles 4 (some .int) 7 114 [.ref (E.2.1 0), .int a1] σ r σr := by
  refine enterI 2 [some (.ref (E.2.1 0)), some (.int a1), none, none] (by decide +kernel) rfl (Nat.le_of_ble_eq_true rfl) (fun o K hnL hC hab hR => ?_)
  have hC : Cx E K RX11 cX11_settles (some .int) 7 114 := hC
  have hN : ∀ k, k < 4 → k < K.2.2.2.2.2 := fun k hk => hnL ▸ hk
  delta F_X11_settles at h
  refine g_aload_n (pc := 0) hC dX11_settles_0 rfl ?_
  refine fg_X11_28_0 (pc := 1) hC dX11_settles_1 ?_
  refine g_iload_n (pc := 4) hC dX11_settles_4 rfl ?_
  obtain ⟨v1, hc, h⟩ := cp_e h
  refine g_callVi (pc := 5) (As := [.int a1]) (rest := []) hC (c_X2_has l E a1 σ v1 hc) mi_X2_has mv_X2_has ob_6 rfl rfl lk_X11_159 rfl rfl (Nat.le_of_ble_eq_true rfl) ⟨by decide, by decide⟩ hab dX11_settles_5 ?_
  by_cases c2 : v1 = 0
  · replace h := it_t c2 h
    exact th_rt h
  · replace h := it_f c2 h
    refine g_callSv (pc := 8) (As := [.int v1]) (rest := []) hC (c_X11_need l E v1 σ c2) mi_X11_need ms_X11_need lk_X11_139 rfl rfl (Nat.le_of_ble_eq_true rfl) ⟨by decide, by decide⟩ hab dX11_settles_8 ?_
    refine g_aload_n (pc := 11) hC dX11_settles_11 rfl ?_
    obtain ⟨σ3, hc, h⟩ := cp_e h
    refine g_callVv (pc := 12) (As := []) (rest := []) hC (c_X11_findPath l E σ σ3 hc) mi_X11_findPath mv_X11_findPath ob_0 rfl rfl lk_X11_175 rfl rfl (Nat.le_of_ble_eq_true rfl) ⟨by decide, by decide⟩ hab dX11_settles_12 ?_
    refine g_aload_n (pc := 15) hC dX11_settles_15 rfl ?_
    refine fg_X11_46_0 (pc := 16) hC dX11_settles_16 ?_
    refine g_iload_n (pc := 19) hC dX11_settles_19 rfl ?_
    refine g_bipush (pc := 20) hC kb_20 dX11_settles_20 ?_
    obtain ⟨v4, hc, h⟩ := cp_e h
    refine g_callVi (pc := 22) (As := [.int a1, .int 20]) (rest := []) hC (c_X5_chosenLive l E a1 20 σ3 v4 hc) mi_X5_chosenLive mv_X5_chosenLive ob_16 rfl rfl lk_X11_221 rfl rfl (Nat.le_of_ble_eq_true rfl) ⟨by decide, by decide⟩ hab dX11_settles_22 ?_
    refine g_istore_n (lv2 := [some (.ref (E.2.1 0)), some (.int a1), some (.int v4), none]) (pc := 25) hC dX11_settles_25 rfl (Or.inr rfl) (hN _ (by decide)) ?_
    refine g_bipush (pc := 26) hC kb_20 dX11_settles_26 ?_
    refine g_istore_n (lv2 := [some (.ref (E.2.1 0)), some (.int a1), some (.int v4), some (.int 20)]) (pc := 28) hC dX11_settles_28 rfl (Or.inr rfl) (hN _ (by decide)) ?_
    have hL1 : ∀ (n : Nat) (w5 : Int32) (z1 : Int32), iter n (fun z => B_X11_settles_2 a1 v4 σ3 z) w5 = some z1 → (∀ (v6 : Int32), z1 = v6 → Gd l E K 0 0 o σ3 54 [none, none, none, some (.int v6)] []) → Gd l E K 0 0 o σ3 29 [some (.ref (E.2.1 0)), some (.int a1), some (.int v4), some (.int w5)] [] := by
      intro n
      induction n with
      | zero =>
        intro w5 z1 hi
        exact (iter_0 hi).elim
      | succ n ih1 =>
        intro w5 z1 hi1 kx1
        obtain ⟨r1, h, hi1⟩ := iter_s hi1
        replace h : B_X11_settles_2 a1 v4 σ3 w5 = some r1 := h
        delta B_X11_settles_2 at h
        refine g_iload_n (pc := 29) hC dX11_settles_29 rfl ?_
        refine g_if_le (tgt := 54) (pc := 30) hC dX11_settles_30 (by decide) (fun c7 => ?_) (fun c7 => ?_)
        · replace h := it_t c7 h
          refine g_mask [false, false, false, true] rfl ?_
          exact kx1 w5 (iter_r h hi1)
        · replace h := it_f c7 h
          refine g_aload_n (pc := 33) hC dX11_settles_33 rfl ?_
          refine fg_X11_46_0 (pc := 34) hC dX11_settles_34 ?_
          refine g_iload_n (pc := 37) hC dX11_settles_37 rfl ?_
          refine g_iload_n (pc := 38) hC dX11_settles_38 rfl ?_
          refine g_iconst (pc := 39) hC ki_1 dX11_settles_39 ?_
          refine g_isub (pc := 40) hC dX11_settles_40 ?_
          obtain ⟨v8, hc, h⟩ := cp_e h
          refine g_callVi (pc := 41) (As := [.int a1, .int (w5 - 1)]) (rest := []) hC (c_X5_chosenLive l E a1 (w5 - 1) σ3 v8 hc) mi_X5_chosenLive mv_X5_chosenLive ob_16 rfl rfl lk_X11_221 rfl rfl (Nat.le_of_ble_eq_true rfl) ⟨by decide, by decide⟩ hab dX11_settles_41 ?_
          refine g_iload_n (pc := 44) hC dX11_settles_44 rfl ?_
          refine g_icmp_ne (tgt := 54) (pc := 45) hC dX11_settles_45 (by decide) (fun c9 => ?_) (fun c9 => ?_)
          · replace h := it_f c9 h
            refine g_mask [false, false, false, true] rfl ?_
            exact kx1 w5 (iter_r h hi1)
          · replace h := it_t c9 h
            obtain ⟨v10, ev10, h⟩ := lt_e h
            refine g_iinc (v := v10) (lv2 := [some (.ref (E.2.1 0)), some (.int a1), some (.int v4), some (.int v10)]) (pc := 48) hC dX11_settles_48 rfl ev10 rfl (Or.inr rfl) (hN _ (by decide)) ?_
            refine g_goto (tgt := 29) (pc := 51) hC dX11_settles_51 (by decide) ?_
            exact ih1 v10 z1 (iter_l h hi1) kx1
    obtain ⟨z1, hz1, h⟩ := lp_e h
    refine hL1 FU 20 z1 hz1 (fun v6 ez => ?_)
    replace h : C_X11_settles_3 σ3 v6 = some (.inl r, σr) := by rw [ez] at h; exact h
    delta C_X11_settles_3 at h
    refine g_iload_n (pc := 54) hC dX11_settles_54 rfl ?_
    exact g_rett (pc := 55) hC h hR dX11_settles_55
set_option maxRecDepth 20000 in
theorem x_X11_settles (l : Launch) (hl9 : l.stackTraces = false) (E : uE) (a1 : Int32) (σ : uS) (kx : Nat) (σr : uS) (h : F_X11_settles a1 σ = some (.inr kx, σr)) : CtX l E yX11_settles cX11_settles 4 7 114 [.ref (E.2.1 0), .int a1] σ kx σr := by
  refine enterX 2 [some (.ref (E.2.1 0)), some (.int a1), none, none] (by decide +kernel) rfl (Nat.le_of_ble_eq_true rfl) (fun o K hnL hC hab h6 hXt hR => ?_)
  have hC : Cx E K RX11 cX11_settles (some .int) 7 114 := hC
  have hN : ∀ k, k < 4 → k < K.2.2.2.2.2 := fun k hk => hnL ▸ hk
  delta F_X11_settles at h
  refine g_aload_n (pc := 0) hC dX11_settles_0 rfl ?_
  refine fg_X11_28_0 (pc := 1) hC dX11_settles_1 ?_
  refine g_iload_n (pc := 4) hC dX11_settles_4 rfl ?_
  obtain ⟨v1, hc, h⟩ := cp_e h
  refine g_callVi (pc := 5) (As := [.int a1]) (rest := []) hC (c_X2_has l E a1 σ v1 hc) mi_X2_has mv_X2_has ob_6 rfl rfl lk_X11_159 rfl rfl (Nat.le_of_ble_eq_true rfl) ⟨by decide, by decide⟩ hab dX11_settles_5 ?_
  by_cases c2 : v1 = 0
  · replace h := it_t c2 h
    exact g_thr (pc := 8) (As := [.int v1]) (rest := []) hC (x_X11_need l hl9 E v1 σ c2) mi_X11_need ms_X11_need lk_X11_139 rfl rfl (Nat.le_of_ble_eq_true rfl) ⟨by decide, by decide⟩ h6 hXt h hR dX11_settles_8
  · replace h := it_f c2 h
    refine g_callSv (pc := 8) (As := [.int v1]) (rest := []) hC (c_X11_need l E v1 σ c2) mi_X11_need ms_X11_need lk_X11_139 rfl rfl (Nat.le_of_ble_eq_true rfl) ⟨by decide, by decide⟩ hab dX11_settles_8 ?_
    refine g_aload_n (pc := 11) hC dX11_settles_11 rfl ?_
    obtain ⟨σ3, hc, h⟩ := cp_e h
    refine g_callVv (pc := 12) (As := []) (rest := []) hC (c_X11_findPath l E σ σ3 hc) mi_X11_findPath mv_X11_findPath ob_0 rfl rfl lk_X11_175 rfl rfl (Nat.le_of_ble_eq_true rfl) ⟨by decide, by decide⟩ hab dX11_settles_12 ?_
    refine g_aload_n (pc := 15) hC dX11_settles_15 rfl ?_
    refine fg_X11_46_0 (pc := 16) hC dX11_settles_16 ?_
    refine g_iload_n (pc := 19) hC dX11_settles_19 rfl ?_
    refine g_bipush (pc := 20) hC kb_20 dX11_settles_20 ?_
    obtain ⟨v4, hc, h⟩ := cp_e h
    refine g_callVi (pc := 22) (As := [.int a1, .int 20]) (rest := []) hC (c_X5_chosenLive l E a1 20 σ3 v4 hc) mi_X5_chosenLive mv_X5_chosenLive ob_16 rfl rfl lk_X11_221 rfl rfl (Nat.le_of_ble_eq_true rfl) ⟨by decide, by decide⟩ hab dX11_settles_22 ?_
    refine g_istore_n (lv2 := [some (.ref (E.2.1 0)), some (.int a1), some (.int v4), none]) (pc := 25) hC dX11_settles_25 rfl (Or.inr rfl) (hN _ (by decide)) ?_
    refine g_bipush (pc := 26) hC kb_20 dX11_settles_26 ?_
    refine g_istore_n (lv2 := [some (.ref (E.2.1 0)), some (.int a1), some (.int v4), some (.int 20)]) (pc := 28) hC dX11_settles_28 rfl (Or.inr rfl) (hN _ (by decide)) ?_
    have hL1 : ∀ (n : Nat) (w5 : Int32) (z1 : Int32), iter n (fun z => B_X11_settles_2 a1 v4 σ3 z) w5 = some z1 → (∀ (v6 : Int32), z1 = v6 → Gd l E K 0 0 o σ3 54 [none, none, none, some (.int v6)] []) → Gd l E K 0 0 o σ3 29 [some (.ref (E.2.1 0)), some (.int a1), some (.int v4), some (.int w5)] [] := by
      intro n
      induction n with
      | zero =>
        intro w5 z1 hi
        exact (iter_0 hi).elim
      | succ n ih1 =>
        intro w5 z1 hi1 kx1
        obtain ⟨r1, h, hi1⟩ := iter_s hi1
        replace h : B_X11_settles_2 a1 v4 σ3 w5 = some r1 := h
        delta B_X11_settles_2 at h
        refine g_iload_n (pc := 29) hC dX11_settles_29 rfl ?_
        refine g_if_le (tgt := 54) (pc := 30) hC dX11_settles_30 (by decide) (fun c7 => ?_) (fun c7 => ?_)
        · replace h := it_t c7 h
          refine g_mask [false, false, false, true] rfl ?_
          exact kx1 w5 (iter_r h hi1)
        · replace h := it_f c7 h
          refine g_aload_n (pc := 33) hC dX11_settles_33 rfl ?_
          refine fg_X11_46_0 (pc := 34) hC dX11_settles_34 ?_
          refine g_iload_n (pc := 37) hC dX11_settles_37 rfl ?_
          refine g_iload_n (pc := 38) hC dX11_settles_38 rfl ?_
          refine g_iconst (pc := 39) hC ki_1 dX11_settles_39 ?_
          refine g_isub (pc := 40) hC dX11_settles_40 ?_
          obtain ⟨v8, hc, h⟩ := cp_e h
          refine g_callVi (pc := 41) (As := [.int a1, .int (w5 - 1)]) (rest := []) hC (c_X5_chosenLive l E a1 (w5 - 1) σ3 v8 hc) mi_X5_chosenLive mv_X5_chosenLive ob_16 rfl rfl lk_X11_221 rfl rfl (Nat.le_of_ble_eq_true rfl) ⟨by decide, by decide⟩ hab dX11_settles_41 ?_
          refine g_iload_n (pc := 44) hC dX11_settles_44 rfl ?_
          refine g_icmp_ne (tgt := 54) (pc := 45) hC dX11_settles_45 (by decide) (fun c9 => ?_) (fun c9 => ?_)
          · replace h := it_f c9 h
            refine g_mask [false, false, false, true] rfl ?_
            exact kx1 w5 (iter_r h hi1)
          · replace h := it_t c9 h
            obtain ⟨v10, ev10, h⟩ := lt_e h
            refine g_iinc (v := v10) (lv2 := [some (.ref (E.2.1 0)), some (.int a1), some (.int v4), some (.int v10)]) (pc := 48) hC dX11_settles_48 rfl ev10 rfl (Or.inr rfl) (hN _ (by decide)) ?_
            refine g_goto (tgt := 29) (pc := 51) hC dX11_settles_51 (by decide) ?_
            exact ih1 v10 z1 (iter_l h hi1) kx1
    obtain ⟨z1, hz1, h⟩ := lp_e h
    refine hL1 FU 20 z1 hz1 (fun v6 ez => ?_)
    replace h : C_X11_settles_3 σ3 v6 = some (.inr kx, σr) := by rw [ez] at h; exact h
    delta C_X11_settles_3 at h
    refine g_iload_n (pc := 54) hC dX11_settles_54 rfl ?_
    exact th_tr h
set_option maxRecDepth 20000 in
theorem c_X11_best (l : Launch) (E : uE) (a1 : Int32) (σ : uS) (r : Int32) (σr : uS) (h : F_X11_best a1 σ = some (.inl r, σr)) : CtI l E yX11_best cX11_best 2 (some .int) 7 135 [.ref (E.2.1 0), .int a1] σ r σr := by
  refine enterI 0 [some (.ref (E.2.1 0)), some (.int a1)] (by decide +kernel) rfl (Nat.le_of_ble_eq_true rfl) (fun o K hnL hC hab hR => ?_)
  have hC : Cx E K RX11 cX11_best (some .int) 7 135 := hC
  have hN : ∀ k, k < 2 → k < K.2.2.2.2.2 := fun k hk => hnL ▸ hk
  delta F_X11_best at h
  refine g_iload_n (pc := 0) hC dX11_best_0 rfl ?_
  have hJ15 : ∀ (v3 : Int32), J_X11_best_2 a1 σ v3 = some (.inl r, σr) → Gd l E K 0 0 o σ 15 [some (.ref (E.2.1 0)), some (.int a1)] [.int v3] := by
    intro v3 h
    delta J_X11_best_2 at h
    by_cases c4 : v3 = 0
    · replace h := it_t c4 h
      exact th_rt h
    · replace h := it_f c4 h
      refine g_callSv (pc := 15) (As := [.int v3]) (rest := []) hC (c_X11_allow l E v3 σ c4) mi_X11_allow ms_X11_allow lk_X11_211 rfl rfl (Nat.le_of_ble_eq_true rfl) ⟨by decide, by decide⟩ hab dX11_best_15 ?_
      refine g_aload_n (pc := 18) hC dX11_best_18 rfl ?_
      obtain ⟨σ5, hc, h⟩ := cp_e h
      refine g_callVv (pc := 19) (As := []) (rest := []) hC (c_X11_findRanking l E σ σ5 hc) mi_X11_findRanking mv_X11_findRanking ob_0 rfl rfl lk_X11_224 rfl rfl (Nat.le_of_ble_eq_true rfl) ⟨by decide, by decide⟩ hab dX11_best_19 ?_
      refine g_aload_n (pc := 22) hC dX11_best_22 rfl ?_
      refine fg_X11_53_0 (pc := 23) hC dX11_best_23 ?_
      refine g_iload_n (pc := 26) hC dX11_best_26 rfl ?_
      obtain ⟨v6, hc, h⟩ := cp_e h
      refine g_callVi (pc := 27) (As := [.int a1]) (rest := []) hC (c_X6_priceOf l E a1 σ5 v6 hc) mi_X6_priceOf mv_X6_priceOf ob_27 rfl rfl lk_X11_227 rfl rfl (Nat.le_of_ble_eq_true rfl) ⟨by decide, by decide⟩ hab dX11_best_27 ?_
      exact g_rett (pc := 30) hC h hR dX11_best_30
  have hJ14 : J_X11_best_1 a1 σ = some (.inl r, σr) → Gd l E K 0 0 o σ 14 [some (.ref (E.2.1 0)), some (.int a1)] [] := by
    intro h
    delta J_X11_best_1 at h
    refine g_iconst (pc := 14) hC ki_0 dX11_best_14 ?_
    exact hJ15 0 h
  refine g_if_lt (tgt := 14) (pc := 1) hC dX11_best_1 (by decide) (fun c1 => ?_) (fun c1 => ?_)
  · replace h := it_t c1 h
    exact hJ14 h
  · replace h := it_f c1 h
    refine g_iload_n (pc := 4) hC dX11_best_4 rfl ?_
    refine g_bipush (pc := 5) hC kb_8 dX11_best_5 ?_
    refine g_icmp_ge (tgt := 14) (pc := 7) hC dX11_best_7 (by decide) (fun c2 => ?_) (fun c2 => ?_)
    · replace h := it_t c2 h
      exact hJ14 h
    · replace h := it_f c2 h
      refine g_iconst (pc := 10) hC ki_1 dX11_best_10 ?_
      refine g_goto (tgt := 15) (pc := 11) hC dX11_best_11 (by decide) ?_
      exact hJ15 1 h
set_option maxRecDepth 20000 in
theorem x_X11_best (l : Launch) (hl9 : l.stackTraces = false) (E : uE) (a1 : Int32) (σ : uS) (kx : Nat) (σr : uS) (h : F_X11_best a1 σ = some (.inr kx, σr)) : CtX l E yX11_best cX11_best 2 7 135 [.ref (E.2.1 0), .int a1] σ kx σr := by
  refine enterX 0 [some (.ref (E.2.1 0)), some (.int a1)] (by decide +kernel) rfl (Nat.le_of_ble_eq_true rfl) (fun o K hnL hC hab h6 hXt hR => ?_)
  have hC : Cx E K RX11 cX11_best (some .int) 7 135 := hC
  have hN : ∀ k, k < 2 → k < K.2.2.2.2.2 := fun k hk => hnL ▸ hk
  delta F_X11_best at h
  refine g_iload_n (pc := 0) hC dX11_best_0 rfl ?_
  have hJ15 : ∀ (v3 : Int32), J_X11_best_2 a1 σ v3 = some (.inr kx, σr) → Gd l E K 0 0 o σ 15 [some (.ref (E.2.1 0)), some (.int a1)] [.int v3] := by
    intro v3 h
    delta J_X11_best_2 at h
    by_cases c4 : v3 = 0
    · replace h := it_t c4 h
      exact g_thr (pc := 15) (As := [.int v3]) (rest := []) hC (x_X11_allow l hl9 E v3 σ c4) mi_X11_allow ms_X11_allow lk_X11_211 rfl rfl (Nat.le_of_ble_eq_true rfl) ⟨by decide, by decide⟩ h6 hXt h hR dX11_best_15
    · replace h := it_f c4 h
      refine g_callSv (pc := 15) (As := [.int v3]) (rest := []) hC (c_X11_allow l E v3 σ c4) mi_X11_allow ms_X11_allow lk_X11_211 rfl rfl (Nat.le_of_ble_eq_true rfl) ⟨by decide, by decide⟩ hab dX11_best_15 ?_
      refine g_aload_n (pc := 18) hC dX11_best_18 rfl ?_
      obtain ⟨σ5, hc, h⟩ := cp_e h
      refine g_callVv (pc := 19) (As := []) (rest := []) hC (c_X11_findRanking l E σ σ5 hc) mi_X11_findRanking mv_X11_findRanking ob_0 rfl rfl lk_X11_224 rfl rfl (Nat.le_of_ble_eq_true rfl) ⟨by decide, by decide⟩ hab dX11_best_19 ?_
      refine g_aload_n (pc := 22) hC dX11_best_22 rfl ?_
      refine fg_X11_53_0 (pc := 23) hC dX11_best_23 ?_
      refine g_iload_n (pc := 26) hC dX11_best_26 rfl ?_
      obtain ⟨v6, hc, h⟩ := cp_e h
      refine g_callVi (pc := 27) (As := [.int a1]) (rest := []) hC (c_X6_priceOf l E a1 σ5 v6 hc) mi_X6_priceOf mv_X6_priceOf ob_27 rfl rfl lk_X11_227 rfl rfl (Nat.le_of_ble_eq_true rfl) ⟨by decide, by decide⟩ hab dX11_best_27 ?_
      exact th_tr h
  have hJ14 : J_X11_best_1 a1 σ = some (.inr kx, σr) → Gd l E K 0 0 o σ 14 [some (.ref (E.2.1 0)), some (.int a1)] [] := by
    intro h
    delta J_X11_best_1 at h
    refine g_iconst (pc := 14) hC ki_0 dX11_best_14 ?_
    exact hJ15 0 h
  refine g_if_lt (tgt := 14) (pc := 1) hC dX11_best_1 (by decide) (fun c1 => ?_) (fun c1 => ?_)
  · replace h := it_t c1 h
    exact hJ14 h
  · replace h := it_f c1 h
    refine g_iload_n (pc := 4) hC dX11_best_4 rfl ?_
    refine g_bipush (pc := 5) hC kb_8 dX11_best_5 ?_
    refine g_icmp_ge (tgt := 14) (pc := 7) hC dX11_best_7 (by decide) (fun c2 => ?_) (fun c2 => ?_)
    · replace h := it_t c2 h
      exact hJ14 h
    · replace h := it_f c2 h
      refine g_iconst (pc := 10) hC ki_1 dX11_best_10 ?_
      refine g_goto (tgt := 15) (pc := 11) hC dX11_best_11 (by decide) ?_
      exact hJ15 1 h
set_option maxRecDepth 20000 in
theorem c_X11_bestAt (l : Launch) (E : uE) (a1 : Int32) (a2 : Int32) (σ : uS) (r : Int32) (σr : uS) (h : F_X11_bestAt a1 a2 σ = some (.inl r, σr)) : CtI l E yX11_bestAt cX11_bestAt 3 (some .int) 7 135 [.ref (E.2.1 0), .int a1, .int a2] σ r σr := by
  refine enterI 0 [some (.ref (E.2.1 0)), some (.int a1), some (.int a2)] (by decide +kernel) rfl (Nat.le_of_ble_eq_true rfl) (fun o K hnL hC hab hR => ?_)
  have hC : Cx E K RX11 cX11_bestAt (some .int) 7 135 := hC
  have hN : ∀ k, k < 3 → k < K.2.2.2.2.2 := fun k hk => hnL ▸ hk
  delta F_X11_bestAt at h
  refine g_iload_n (pc := 0) hC dX11_bestAt_0 rfl ?_
  have hJ15 : ∀ (v3 : Int32), J_X11_bestAt_2 a1 a2 σ v3 = some (.inl r, σr) → Gd l E K 0 0 o σ 15 [some (.ref (E.2.1 0)), some (.int a1), some (.int a2)] [.int v3] := by
    intro v3 h
    delta J_X11_bestAt_2 at h
    by_cases c4 : v3 = 0
    · replace h := it_t c4 h
      exact th_rt h
    · replace h := it_f c4 h
      refine g_callSv (pc := 15) (As := [.int v3]) (rest := []) hC (c_X11_allow l E v3 σ c4) mi_X11_allow ms_X11_allow lk_X11_211 rfl rfl (Nat.le_of_ble_eq_true rfl) ⟨by decide, by decide⟩ hab dX11_bestAt_15 ?_
      refine g_aload_n (pc := 18) hC dX11_bestAt_18 rfl ?_
      refine fg_X11_28_0 (pc := 19) hC dX11_bestAt_19 ?_
      refine g_iload_n (pc := 22) hC dX11_bestAt_22 rfl ?_
      obtain ⟨v5, hc, h⟩ := cp_e h
      refine g_callVi (pc := 23) (As := [.int a2]) (rest := []) hC (c_X2_has l E a2 σ v5 hc) mi_X2_has mv_X2_has ob_6 rfl rfl lk_X11_159 rfl rfl (Nat.le_of_ble_eq_true rfl) ⟨by decide, by decide⟩ hab dX11_bestAt_23 ?_
      by_cases c6 : v5 = 0
      · replace h := it_t c6 h
        exact th_rt h
      · replace h := it_f c6 h
        refine g_callSv (pc := 26) (As := [.int v5]) (rest := []) hC (c_X11_need l E v5 σ c6) mi_X11_need ms_X11_need lk_X11_139 rfl rfl (Nat.le_of_ble_eq_true rfl) ⟨by decide, by decide⟩ hab dX11_bestAt_26 ?_
        refine g_aload_n (pc := 29) hC dX11_bestAt_29 rfl ?_
        obtain ⟨σ7, hc, h⟩ := cp_e h
        refine g_callVv (pc := 30) (As := []) (rest := []) hC (c_X11_findRanking l E σ σ7 hc) mi_X11_findRanking mv_X11_findRanking ob_0 rfl rfl lk_X11_224 rfl rfl (Nat.le_of_ble_eq_true rfl) ⟨by decide, by decide⟩ hab dX11_bestAt_30 ?_
        refine g_aload_n (pc := 33) hC dX11_bestAt_33 rfl ?_
        refine fg_X11_53_0 (pc := 34) hC dX11_bestAt_34 ?_
        refine g_iload_n (pc := 37) hC dX11_bestAt_37 rfl ?_
        refine g_iload_n (pc := 38) hC dX11_bestAt_38 rfl ?_
        obtain ⟨v8, hc, h⟩ := cp_e h
        refine g_callVi (pc := 39) (As := [.int a1, .int a2]) (rest := []) hC (c_X6_chosenIn l E a1 a2 σ7 v8 hc) mi_X6_chosenIn mv_X6_chosenIn ob_27 rfl rfl lk_X11_228 rfl rfl (Nat.le_of_ble_eq_true rfl) ⟨by decide, by decide⟩ hab dX11_bestAt_39 ?_
        exact g_rett (pc := 42) hC h hR dX11_bestAt_42
  have hJ14 : J_X11_bestAt_1 a1 a2 σ = some (.inl r, σr) → Gd l E K 0 0 o σ 14 [some (.ref (E.2.1 0)), some (.int a1), some (.int a2)] [] := by
    intro h
    delta J_X11_bestAt_1 at h
    refine g_iconst (pc := 14) hC ki_0 dX11_bestAt_14 ?_
    exact hJ15 0 h
  refine g_if_lt (tgt := 14) (pc := 1) hC dX11_bestAt_1 (by decide) (fun c1 => ?_) (fun c1 => ?_)
  · replace h := it_t c1 h
    exact hJ14 h
  · replace h := it_f c1 h
    refine g_iload_n (pc := 4) hC dX11_bestAt_4 rfl ?_
    refine g_bipush (pc := 5) hC kb_8 dX11_bestAt_5 ?_
    refine g_icmp_ge (tgt := 14) (pc := 7) hC dX11_bestAt_7 (by decide) (fun c2 => ?_) (fun c2 => ?_)
    · replace h := it_t c2 h
      exact hJ14 h
    · replace h := it_f c2 h
      refine g_iconst (pc := 10) hC ki_1 dX11_bestAt_10 ?_
      refine g_goto (tgt := 15) (pc := 11) hC dX11_bestAt_11 (by decide) ?_
      exact hJ15 1 h

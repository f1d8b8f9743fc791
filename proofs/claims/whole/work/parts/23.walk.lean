set_option maxRecDepth 20000 in
theorem c_X12_span (l : Launch) (E : uE) (a1 : Int32) (a2 : Int32) (σ : uS) (r : Int32) (σr : uS) (h : F_X12_span a1 a2 σ = some (r, σr)) : CtI l E yX12_span cX12_span 3 (some .int) 8 179 [.ref (E.2.1 55), .int a1, .int a2] σ r σr := by
  refine enterI 0 [some (.ref (E.2.1 55)), some (.int a1), some (.int a2)] (by decide +kernel) rfl (Nat.le_of_ble_eq_true rfl) (fun o K hnL hC hab hR => ?_)
  have hC : Cx E K RX12 cX12_span (some .int) 8 179 := hC
  have hN : ∀ k, k < 3 → k < K.2.2.2.2.2 := fun k hk => hnL ▸ hk
  delta F_X12_span at h
  refine g_aload_n (pc := 0) hC dX12_span_0 rfl ?_
  refine g_iconst (pc := 1) hC ki_0 dX12_span_1 ?_
  obtain ⟨σ1, eσ1, h⟩ := pf_e h
  refine fp_X12_119_55 (pc := 2) hC dX12_span_2 eσ1 ?_
  refine g_aload_n (pc := 5) hC dX12_span_5 rfl ?_
  obtain ⟨σ2, hc, h⟩ := cp_e h
  refine g_callVv (pc := 6) (As := []) (rest := []) hC (c_X12_laysMarks l E σ1 σ2 hc) mi_X12_laysMarks mv_X12_laysMarks ob_55 rfl rfl lk_X12_293 rfl rfl (Nat.le_of_ble_eq_true rfl) ⟨by decide, by decide⟩ hab dX12_span_6 ?_
  refine g_aload_n (pc := 9) hC dX12_span_9 rfl ?_
  refine g_iload_n (pc := 10) hC dX12_span_10 rfl ?_
  refine g_iconst (pc := 11) hC ki_0 dX12_span_11 ?_
  refine g_aload_n (pc := 12) hC dX12_span_12 rfl ?_
  refine fg_X12_287_55 (pc := 13) hC dX12_span_13 ?_
  refine g_iconst (pc := 16) hC ki_1 dX12_span_16 ?_
  refine g_isub (pc := 17) hC dX12_span_17 ?_
  obtain ⟨v3, hc, h⟩ := cp_e h
  refine g_callSi (pc := 18) (As := [.int a1, .int 0, .int ((σ2 55 33) - 1)]) (rest := [.ref (E.2.1 55)]) hC (c_X12_isIn l E a1 0 ((σ2 55 33) - 1) σ2 v3 hc) mi_X12_isIn ms_X12_isIn lk_X12_133 rfl rfl (Nat.le_of_ble_eq_true rfl) ⟨by decide, by decide⟩ hab dX12_span_18 ?_
  have hJ39 : ∀ (v7 : Int32), J_X12_span_2 a1 a2 σ2 v7 = some (r, σr) → Gd l E K 0 0 o σ2 39 [some (.ref (E.2.1 55)), some (.int a1), some (.int a2)] [.int v7, .ref (E.2.1 55)] := by
    intro v7 h
    delta J_X12_span_2 at h
    refine g_iconst (pc := 39) hC ki_1 dX12_span_39 ?_
    obtain ⟨v9, σ8, hc, h⟩ := cl_e h
    refine g_callVi (pc := 40) (As := [.int v7, .int 1]) (rest := []) hC (c_X12_right l E v7 1 σ2 v9 σ8 hc) mi_X12_right mv_X12_right ob_55 rfl rfl lk_X12_148 rfl rfl (Nat.le_of_ble_eq_true rfl) ⟨by decide, by decide⟩ hab dX12_span_40 ?_
    refine g_if_ne (tgt := 48) (pc := 43) hC dX12_span_43 (by decide) (fun c10 => ?_) (fun c10 => ?_)
    · replace h := it_f c10 h
      refine g_iload_n (pc := 48) hC dX12_span_48 rfl ?_
      by_cases c11 : a2 = 0
      · replace h := it_t c11 h
        refine g_tabIn (tgt := 88) (off := 39) (pc := 49) hC dX12_span_49 (by rw [c11]; decide) (by rw [c11]; decide) (by rw [c11]; rfl) (by decide) ?_
        refine g_aload_n (pc := 88) hC dX12_span_88 rfl ?_
        refine fg_X12_77_55 (pc := 89) hC dX12_span_89 ?_
        refine g_iload_n (pc := 92) hC dX12_span_92 rfl ?_
        obtain ⟨v12, ev12, nv12, h⟩ := rd_e h
        refine g_iald (pc := 93) hC 78 (by decide) (ar_78 _ _ _) nv12 dX12_span_93 ?_
        refine g_top ev12 ?_
        exact g_ret (pc := 94) hC h hR dX12_span_94
      · replace h := it_f c11 h
        by_cases c13 : a2 = 1
        · replace h := it_t c13 h
          refine g_tabIn (tgt := 95) (off := 46) (pc := 49) hC dX12_span_49 (by rw [c13]; decide) (by rw [c13]; decide) (by rw [c13]; rfl) (by decide) ?_
          refine g_aload_n (pc := 95) hC dX12_span_95 rfl ?_
          refine fg_X12_77_55 (pc := 96) hC dX12_span_96 ?_
          refine g_iload_n (pc := 99) hC dX12_span_99 rfl ?_
          refine g_iconst (pc := 100) hC ki_1 dX12_span_100 ?_
          refine g_iadd (pc := 101) hC dX12_span_101 ?_
          obtain ⟨v14, ev14, nv14, h⟩ := rd_e h
          refine g_iald (pc := 102) hC 78 (by decide) (ar_78 _ _ _) nv14 dX12_span_102 ?_
          refine g_top ev14 ?_
          refine g_aload_n (pc := 103) hC dX12_span_103 rfl ?_
          refine fg_X12_77_55 (pc := 104) hC dX12_span_104 ?_
          refine g_iload_n (pc := 107) hC dX12_span_107 rfl ?_
          obtain ⟨v15, ev15, nv15, h⟩ := rd_e h
          refine g_iald (pc := 108) hC 78 (by decide) (ar_78 _ _ _) nv15 dX12_span_108 ?_
          refine g_top ev15 ?_
          refine g_isub (pc := 109) hC dX12_span_109 ?_
          exact g_ret (pc := 110) hC h hR dX12_span_110
        · replace h := it_f c13 h
          by_cases c16 : a2 = 2
          · replace h := it_t c16 h
            refine g_tabIn (tgt := 111) (off := 62) (pc := 49) hC dX12_span_49 (by rw [c16]; decide) (by rw [c16]; decide) (by rw [c16]; rfl) (by decide) ?_
            refine g_aload_n (pc := 111) hC dX12_span_111 rfl ?_
            refine g_iload_n (pc := 112) hC dX12_span_112 rfl ?_
            obtain ⟨v17, hc, h⟩ := cp_e h
            refine g_callVi (pc := 113) (As := [.int a1]) (rest := []) hC (c_X12_isVoiced l E a1 σ8 v17 hc) mi_X12_isVoiced mv_X12_isVoiced ob_55 rfl rfl lk_X12_296 rfl rfl (Nat.le_of_ble_eq_true rfl) ⟨by decide, by decide⟩ hab dX12_span_113 ?_
            obtain ⟨v19, ev19, h⟩ := lt_e h
            have hJ124 : Gd l E K 0 0 o σ8 124 [none, none, none] [.int v19] := by
              exact g_ret (pc := 124) hC h hR dX12_span_124
            refine g_if_eq (tgt := 123) (pc := 116) hC dX12_span_116 (by decide) (fun c18 => ?_) (fun c18 => ?_)
            · refine g_iconst (pc := 123) hC ki_0 dX12_span_123 ?_
              refine g_mask [false, false, false] rfl ?_
              exact g_top (iv_t c18 ev19) hJ124
            · refine g_iconst (pc := 119) hC ki_1 dX12_span_119 ?_
              refine g_goto (tgt := 124) (pc := 120) hC dX12_span_120 (by decide) ?_
              refine g_mask [false, false, false] rfl ?_
              exact g_top (iv_f c18 ev19) hJ124
          · replace h := it_f c16 h
            by_cases c20 : a2 = 3
            · replace h := it_t c20 h
              refine g_tabIn (tgt := 125) (off := 76) (pc := 49) hC dX12_span_49 (by rw [c20]; decide) (by rw [c20]; decide) (by rw [c20]; rfl) (by decide) ?_
              refine g_aload_n (pc := 125) hC dX12_span_125 rfl ?_
              refine g_iload_n (pc := 126) hC dX12_span_126 rfl ?_
              obtain ⟨v21, hc, h⟩ := cp_e h
              refine g_callVi (pc := 127) (As := [.int a1]) (rest := []) hC (c_X12_firstSample l E a1 σ8 v21 hc) mi_X12_firstSample mv_X12_firstSample ob_55 rfl rfl lk_X12_299 rfl rfl (Nat.le_of_ble_eq_true rfl) ⟨by decide, by decide⟩ hab dX12_span_127 ?_
              exact g_ret (pc := 130) hC h hR dX12_span_130
            · replace h := it_f c20 h
              by_cases c22 : a2 = 4
              · replace h := it_t c22 h
                refine g_tabIn (tgt := 131) (off := 82) (pc := 49) hC dX12_span_49 (by rw [c22]; decide) (by rw [c22]; decide) (by rw [c22]; rfl) (by decide) ?_
                refine g_aload_n (pc := 131) hC dX12_span_131 rfl ?_
                refine g_iload_n (pc := 132) hC dX12_span_132 rfl ?_
                obtain ⟨v23, hc, h⟩ := cp_e h
                refine g_callVi (pc := 133) (As := [.int a1]) (rest := []) hC (c_X12_behindSpan l E a1 σ8 v23 hc) mi_X12_behindSpan mv_X12_behindSpan ob_55 rfl rfl lk_X12_302 rfl rfl (Nat.le_of_ble_eq_true rfl) ⟨by decide, by decide⟩ hab dX12_span_133 ?_
                exact g_ret (pc := 136) hC h hR dX12_span_136
              · replace h := it_f c22 h
                by_cases c24 : a2 = 5
                · replace h := it_t c24 h
                  refine g_tabIn (tgt := 137) (off := 88) (pc := 49) hC dX12_span_49 (by rw [c24]; decide) (by rw [c24]; decide) (by rw [c24]; rfl) (by decide) ?_
                  refine g_aload_n (pc := 137) hC dX12_span_137 rfl ?_
                  refine fg_X12_113_55 (pc := 138) hC dX12_span_138 ?_
                  refine g_iload_n (pc := 141) hC dX12_span_141 rfl ?_
                  refine g_iconst (pc := 142) hC ki_1 dX12_span_142 ?_
                  refine g_iadd (pc := 143) hC dX12_span_143 ?_
                  obtain ⟨v25, ev25, nv25, h⟩ := rd_e h
                  refine g_iald (pc := 144) hC 90 (by decide) (ar_90 _ _ _) nv25 dX12_span_144 ?_
                  refine g_top ev25 ?_
                  refine g_aload_n (pc := 145) hC dX12_span_145 rfl ?_
                  refine fg_X12_113_55 (pc := 146) hC dX12_span_146 ?_
                  refine g_iload_n (pc := 149) hC dX12_span_149 rfl ?_
                  obtain ⟨v26, ev26, nv26, h⟩ := rd_e h
                  refine g_iald (pc := 150) hC 90 (by decide) (ar_90 _ _ _) nv26 dX12_span_150 ?_
                  refine g_top ev26 ?_
                  refine g_isub (pc := 151) hC dX12_span_151 ?_
                  exact g_ret (pc := 152) hC h hR dX12_span_152
                · replace h := it_f c24 h
                  have q0 := sw_ne (n := 0) c11 rfl
                  have q1 := sw_ne (n := 1) c13 rfl
                  have q2 := sw_ne (n := 2) c16 rfl
                  have q3 := sw_ne (n := 3) c20 rfl
                  have q4 := sw_ne (n := 4) c22 rfl
                  have q5 := sw_ne (n := 5) c24 rfl
                  refine g_tabOut (tgt := 153) (pc := 49) hC dX12_span_49 (by omega) (by decide) ?_
                  refine g_aload_n (pc := 153) hC dX12_span_153 rfl ?_
                  refine fg_X12_116_55 (pc := 154) hC dX12_span_154 ?_
                  refine g_iload_n (pc := 157) hC dX12_span_157 rfl ?_
                  obtain ⟨v27, ev27, nv27, h⟩ := rd_e h
                  refine g_iald (pc := 158) hC 91 (by decide) (ar_91 _ _ _) nv27 dX12_span_158 ?_
                  refine g_top ev27 ?_
                  exact g_ret (pc := 159) hC h hR dX12_span_159
    · replace h := it_t c10 h
      refine g_iconst (pc := 46) hC ki_0 dX12_span_46 ?_
      exact g_ret (pc := 47) hC h hR dX12_span_47
  have hJ38 : J_X12_span_1 a1 a2 σ2 = some (r, σr) → Gd l E K 0 0 o σ2 38 [some (.ref (E.2.1 55)), some (.int a1), some (.int a2)] [.ref (E.2.1 55)] := by
    intro h
    delta J_X12_span_1 at h
    refine g_iconst (pc := 38) hC ki_0 dX12_span_38 ?_
    exact hJ39 0 h
  refine g_if_eq (tgt := 38) (pc := 21) hC dX12_span_21 (by decide) (fun c4 => ?_) (fun c4 => ?_)
  · replace h := it_t c4 h
    exact hJ38 h
  · replace h := it_f c4 h
    refine g_iload_n (pc := 24) hC dX12_span_24 rfl ?_
    refine g_iconst (pc := 25) hC ki_0 dX12_span_25 ?_
    refine g_bipush (pc := 26) hC kb_6 dX12_span_26 ?_
    obtain ⟨v5, hc, h⟩ := cp_e h
    refine g_callSi (pc := 28) (As := [.int a2, .int 0, .int 6]) (rest := [.ref (E.2.1 55)]) hC (c_X12_isIn l E a2 0 6 σ2 v5 hc) mi_X12_isIn ms_X12_isIn lk_X12_133 rfl rfl (Nat.le_of_ble_eq_true rfl) ⟨by decide, by decide⟩ hab dX12_span_28 ?_
    refine g_if_eq (tgt := 38) (pc := 31) hC dX12_span_31 (by decide) (fun c6 => ?_) (fun c6 => ?_)
    · replace h := it_t c6 h
      exact hJ38 h
    · replace h := it_f c6 h
      refine g_iconst (pc := 34) hC ki_1 dX12_span_34 ?_
      refine g_goto (tgt := 39) (pc := 35) hC dX12_span_35 (by decide) ?_
      exact hJ39 1 h
set_option maxRecDepth 20000 in
theorem c_X12_sorts (l : Launch) (E : uE) (a1 : Int32) (a2 : Int32) (σ : uS) (r : Int32) (σr : uS) (h : F_X12_sorts a1 a2 σ = some (r, σr)) : CtI l E yX12_sorts cX12_sorts 4 (some .int) 0 0 [.ref (E.2.1 55), .int a1, .int a2] σ r σr := by
  refine enterI 1 [some (.ref (E.2.1 55)), some (.int a1), some (.int a2), none] (by decide +kernel) rfl (Nat.le_of_ble_eq_true rfl) (fun o K hnL hC hab hR => ?_)
  have hC : Cx E K RX12 cX12_sorts (some .int) 0 0 := hC
  have hN : ∀ k, k < 4 → k < K.2.2.2.2.2 := fun k hk => hnL ▸ hk
  delta F_X12_sorts at h
  refine g_iload_n (pc := 0) hC dX12_sorts_0 rfl ?_
  refine g_istore_n (lv2 := [some (.ref (E.2.1 55)), some (.int a1), some (.int a2), some (.int a1)]) (pc := 1) hC dX12_sorts_1 rfl (Or.inr rfl) (hN _ (by decide)) ?_
  have hL1 : ∀ (n : Nat) (w1 : Int32) (σ2 : uS) (z1 : Int32 × uS), iter n (fun z => B_X12_sorts_2 a2 z.1 z.2) (w1, σ2) = some z1 → (∀ (v3 : Int32) (σ4 : uS), z1 = (v3, σ4) → Gd l E K 0 0 o σ4 38 [some (.ref (E.2.1 55)), some (.int a1), some (.int a2), some (.int v3)] []) → Gd l E K 0 0 o σ2 2 [some (.ref (E.2.1 55)), some (.int a1), some (.int a2), some (.int w1)] [] := by
    intro n
    induction n with
    | zero =>
      intro w1 σ2 z1 hi
      exact (iter_0 hi).elim
    | succ n ih1 =>
      intro w1 σ2 z1 hi1 kx1
      obtain ⟨r1, h, hi1⟩ := iter_s hi1
      replace h : B_X12_sorts_2 a2 w1 σ2 = some r1 := h
      delta B_X12_sorts_2 at h
      refine g_iload_n (pc := 2) hC dX12_sorts_2 rfl ?_
      refine g_if_le (tgt := 38) (pc := 3) hC dX12_sorts_3 (by decide) (fun c5 => ?_) (fun c5 => ?_)
      · replace h := it_t c5 h
        exact kx1 w1 σ2 (iter_r h hi1)
      · replace h := it_f c5 h
        refine g_aload_n (pc := 6) hC dX12_sorts_6 rfl ?_
        refine fg_X12_89_55 (pc := 7) hC dX12_sorts_7 ?_
        refine g_iload_n (pc := 10) hC dX12_sorts_10 rfl ?_
        refine g_iconst (pc := 11) hC ki_1 dX12_sorts_11 ?_
        refine g_isub (pc := 12) hC dX12_sorts_12 ?_
        obtain ⟨v6, ev6, nv6, h⟩ := rd_e h
        refine g_iald (pc := 13) hC 82 (by decide) (ar_82 _ _ _) nv6 dX12_sorts_13 ?_
        refine g_top ev6 ?_
        refine g_iload_n (pc := 14) hC dX12_sorts_14 rfl ?_
        refine g_icmp_le (tgt := 38) (pc := 15) hC dX12_sorts_15 (by decide) (fun c7 => ?_) (fun c7 => ?_)
        · replace h := it_t c7 h
          exact kx1 w1 σ2 (iter_r h hi1)
        · replace h := it_f c7 h
          refine g_aload_n (pc := 18) hC dX12_sorts_18 rfl ?_
          refine fg_X12_89_55 (pc := 19) hC dX12_sorts_19 ?_
          refine g_iload_n (pc := 22) hC dX12_sorts_22 rfl ?_
          refine g_aload_n (pc := 23) hC dX12_sorts_23 rfl ?_
          refine fg_X12_89_55 (pc := 24) hC dX12_sorts_24 ?_
          refine g_iload_n (pc := 27) hC dX12_sorts_27 rfl ?_
          refine g_iconst (pc := 28) hC ki_1 dX12_sorts_28 ?_
          refine g_isub (pc := 29) hC dX12_sorts_29 ?_
          obtain ⟨v8, ev8, nv8, h⟩ := rd_e h
          refine g_iald (pc := 30) hC 82 (by decide) (ar_82 _ _ _) nv8 dX12_sorts_30 ?_
          refine g_top ev8 ?_
          obtain ⟨σ9, eσ9, nσ9, h⟩ := wr_e h
          refine g_iast (pc := 31) hC 82 (by decide) (ar_82 _ _) nσ9 dX12_sorts_31 eσ9 ?_
          obtain ⟨v10, ev10, h⟩ := lt_e h
          refine g_iinc (v := v10) (lv2 := [some (.ref (E.2.1 55)), some (.int a1), some (.int a2), some (.int v10)]) (pc := 32) hC dX12_sorts_32 rfl ev10 rfl (Or.inr rfl) (hN _ (by decide)) ?_
          refine g_goto (tgt := 2) (pc := 35) hC dX12_sorts_35 (by decide) ?_
          exact ih1 v10 σ9 z1 (iter_l h hi1) kx1
  obtain ⟨z1, hz1, h⟩ := lp_e h
  refine hL1 FU a1 σ z1 hz1 (fun v3 σ4 ez => ?_)
  replace h : C_X12_sorts_3 a1 a2 v3 σ4 = some (r, σr) := by rw [ez] at h; exact h
  delta C_X12_sorts_3 at h
  refine g_aload_n (pc := 38) hC dX12_sorts_38 rfl ?_
  refine fg_X12_89_55 (pc := 39) hC dX12_sorts_39 ?_
  refine g_iload_n (pc := 42) hC dX12_sorts_42 rfl ?_
  refine g_iload_n (pc := 43) hC dX12_sorts_43 rfl ?_
  obtain ⟨σ11, eσ11, nσ11, h⟩ := wr_e h
  refine g_iast (pc := 44) hC 82 (by decide) (ar_82 _ _) nσ11 dX12_sorts_44 eσ11 ?_
  refine g_iload_n (pc := 45) hC dX12_sorts_45 rfl ?_
  refine g_iconst (pc := 46) hC ki_1 dX12_sorts_46 ?_
  refine g_iadd (pc := 47) hC dX12_sorts_47 ?_
  exact g_ret (pc := 48) hC h hR dX12_sorts_48
set_option maxRecDepth 20000 in
theorem c_X12_middleOf (l : Launch) (E : uE) (a1 : Int32) (a2 : Int32) (σ : uS) (r : Int32) (σr : uS) (h : F_X12_middleOf a1 a2 σ = some (r, σr)) : CtI l E yX12_middleOf cX12_middleOf 5 (some .int) 2 43 [.ref (E.2.1 55), .int a1, .int a2] σ r σr := by
  refine enterI 2 [some (.ref (E.2.1 55)), some (.int a1), some (.int a2), none, none] (by decide +kernel) rfl (Nat.le_of_ble_eq_true rfl) (fun o K hnL hC hab hR => ?_)
  have hC : Cx E K RX12 cX12_middleOf (some .int) 2 43 := hC
  have hN : ∀ k, k < 5 → k < K.2.2.2.2.2 := fun k hk => hnL ▸ hk
  delta F_X12_middleOf at h
  refine g_iconst (pc := 0) hC ki_0 dX12_middleOf_0 ?_
  refine g_istore_n (lv2 := [some (.ref (E.2.1 55)), some (.int a1), some (.int a2), some (.int 0), none]) (pc := 1) hC dX12_middleOf_1 rfl (Or.inr rfl) (hN _ (by decide)) ?_
  refine g_iload_n (pc := 2) hC dX12_middleOf_2 rfl ?_
  refine g_istore (lv2 := [some (.ref (E.2.1 55)), some (.int a1), some (.int a2), some (.int 0), some (.int a1)]) (pc := 3) hC dX12_middleOf_3 rfl (Or.inr rfl) (hN _ (by decide)) ?_
  have hL1 : ∀ (n : Nat) (w1 : Int32) (w2 : Int32) (σ3 : uS) (z1 : Int32 × uS), iter n (fun z => B_X12_middleOf_2 a1 a2 z.1 z.2.1 z.2.2) (w1, w2, σ3) = some z1 → (∀ (v4 : Int32) (σ5 : uS), z1 = (v4, σ5) → Gd l E K 0 0 o σ5 31 [some (.ref (E.2.1 55)), none, none, some (.int v4), none] []) → Gd l E K 0 0 o σ3 5 [some (.ref (E.2.1 55)), some (.int a1), some (.int a2), some (.int w1), some (.int w2)] [] := by
    intro n
    induction n with
    | zero =>
      intro w1 w2 σ3 z1 hi
      exact (iter_0 hi).elim
    | succ n ih1 =>
      intro w1 w2 σ3 z1 hi1 kx1
      obtain ⟨r1, h, hi1⟩ := iter_s hi1
      replace h : B_X12_middleOf_2 a1 a2 w1 w2 σ3 = some r1 := h
      delta B_X12_middleOf_2 at h
      refine g_iload (pc := 5) hC dX12_middleOf_5 rfl ?_
      refine g_iload_n (pc := 7) hC dX12_middleOf_7 rfl ?_
      refine g_iload_n (pc := 8) hC dX12_middleOf_8 rfl ?_
      refine g_iadd (pc := 9) hC dX12_middleOf_9 ?_
      refine g_icmp_ge (tgt := 31) (pc := 10) hC dX12_middleOf_10 (by decide) (fun c6 => ?_) (fun c6 => ?_)
      · replace h := it_t c6 h
        refine g_mask [true, false, false, true, false] rfl ?_
        exact kx1 w1 σ3 (iter_r h hi1)
      · replace h := it_f c6 h
        refine g_aload_n (pc := 13) hC dX12_middleOf_13 rfl ?_
        refine g_iload_n (pc := 14) hC dX12_middleOf_14 rfl ?_
        refine g_aload_n (pc := 15) hC dX12_middleOf_15 rfl ?_
        refine g_iload (pc := 16) hC dX12_middleOf_16 rfl ?_
        obtain ⟨v7, hc, h⟩ := cp_e h
        refine g_callVi (pc := 18) (As := [.int w2]) (rest := [.int w1, .ref (E.2.1 55)]) hC (c_X12_lagOnPath l E w2 σ3 v7 hc) mi_X12_lagOnPath mv_X12_lagOnPath ob_55 rfl rfl lk_X12_251 rfl rfl (Nat.le_of_ble_eq_true rfl) ⟨by decide, by decide⟩ hab dX12_middleOf_18 ?_
        obtain ⟨v9, σ8, hc, h⟩ := cl_e h
        refine g_callVi (pc := 21) (As := [.int w1, .int v7]) (rest := []) hC (c_X12_sorts l E w1 v7 σ3 v9 σ8 hc) mi_X12_sorts mv_X12_sorts ob_55 rfl rfl lk_X12_305 rfl rfl (Nat.le_of_ble_eq_true rfl) ⟨by decide, by decide⟩ hab dX12_middleOf_21 ?_
        refine g_istore_n (lv2 := [some (.ref (E.2.1 55)), some (.int a1), some (.int a2), some (.int v9), some (.int w2)]) (pc := 24) hC dX12_middleOf_24 rfl (Or.inr rfl) (hN _ (by decide)) ?_
        obtain ⟨v10, ev10, h⟩ := lt_e h
        refine g_iinc (v := v10) (lv2 := [some (.ref (E.2.1 55)), some (.int a1), some (.int a2), some (.int v9), some (.int v10)]) (pc := 25) hC dX12_middleOf_25 rfl ev10 rfl (Or.inr rfl) (hN _ (by decide)) ?_
        refine g_goto (tgt := 5) (pc := 28) hC dX12_middleOf_28 (by decide) ?_
        exact ih1 v9 v10 σ8 z1 (iter_l h hi1) kx1
  obtain ⟨z1, hz1, h⟩ := lp_e h
  refine hL1 FU 0 a1 σ z1 hz1 (fun v4 σ5 ez => ?_)
  replace h : C_X12_middleOf_3 v4 σ5 = some (r, σr) := by rw [ez] at h; exact h
  delta C_X12_middleOf_3 at h
  refine g_aload_n (pc := 31) hC dX12_middleOf_31 rfl ?_
  refine fg_X12_89_55 (pc := 32) hC dX12_middleOf_32 ?_
  refine g_iload_n (pc := 35) hC dX12_middleOf_35 rfl ?_
  refine g_iconst (pc := 36) hC ki_1 dX12_middleOf_36 ?_
  refine g_isub (pc := 37) hC dX12_middleOf_37 ?_
  refine g_iconst (pc := 38) hC ki_2 dX12_middleOf_38 ?_
  obtain ⟨v11, ev11, nv11, h⟩ := dv_e h
  refine g_idiv (pc := 39) hC nv11 dX12_middleOf_39 ?_
  refine g_top ev11 ?_
  obtain ⟨v12, ev12, nv12, h⟩ := rd_e h
  refine g_iald (pc := 40) hC 82 (by decide) (ar_82 _ _ _) nv12 dX12_middleOf_40 ?_
  refine g_top ev12 ?_
  exact g_ret (pc := 41) hC h hR dX12_middleOf_41
set_option maxRecDepth 20000 in
theorem c_X12_goesOnNote (l : Launch) (E : uE) (a1 : Int32) (σ : uS) (r : Int32) (h : F_X12_goesOnNote a1 σ = some r) : CtI l E yX12_goesOnNote cX12_goesOnNote 4 (some .boolean) 2 43 [.ref (E.2.1 55), .int a1] σ r σ := by
  refine enterI 2 [some (.ref (E.2.1 55)), some (.int a1), none, none] (by decide +kernel) rfl (Nat.le_of_ble_eq_true rfl) (fun o K hnL hC hab hR => ?_)
  have hC : Cx E K RX12 cX12_goesOnNote (some .boolean) 2 43 := hC
  have hN : ∀ k, k < 4 → k < K.2.2.2.2.2 := fun k hk => hnL ▸ hk
  delta F_X12_goesOnNote at h
  refine g_aload_n (pc := 0) hC dX12_goesOnNote_0 rfl ?_
  refine g_iload_n (pc := 1) hC dX12_goesOnNote_1 rfl ?_
  refine g_iconst (pc := 2) hC ki_1 dX12_goesOnNote_2 ?_
  refine g_isub (pc := 3) hC dX12_goesOnNote_3 ?_
  obtain ⟨v1, hc, h⟩ := cp_e h
  refine g_callVi (pc := 4) (As := [.int (a1 - 1)]) (rest := []) hC (c_X12_lagOnPath l E (a1 - 1) σ v1 hc) mi_X12_lagOnPath mv_X12_lagOnPath ob_55 rfl rfl lk_X12_251 rfl rfl (Nat.le_of_ble_eq_true rfl) ⟨by decide, by decide⟩ hab dX12_goesOnNote_4 ?_
  refine g_istore_n (lv2 := [some (.ref (E.2.1 55)), some (.int a1), some (.int v1), none]) (pc := 7) hC dX12_goesOnNote_7 rfl (Or.inr rfl) (hN _ (by decide)) ?_
  refine g_aload_n (pc := 8) hC dX12_goesOnNote_8 rfl ?_
  refine g_iload_n (pc := 9) hC dX12_goesOnNote_9 rfl ?_
  obtain ⟨v2, hc, h⟩ := cp_e h
  refine g_callVi (pc := 10) (As := [.int a1]) (rest := []) hC (c_X12_lagOnPath l E a1 σ v2 hc) mi_X12_lagOnPath mv_X12_lagOnPath ob_55 rfl rfl lk_X12_251 rfl rfl (Nat.le_of_ble_eq_true rfl) ⟨by decide, by decide⟩ hab dX12_goesOnNote_10 ?_
  refine g_istore_n (lv2 := [some (.ref (E.2.1 55)), some (.int a1), some (.int v1), some (.int v2)]) (pc := 13) hC dX12_goesOnNote_13 rfl (Or.inr rfl) (hN _ (by decide)) ?_
  refine g_iload_n (pc := 14) hC dX12_goesOnNote_14 rfl ?_
  have hJ36 : ∀ (v7 : Int32), J_X12_goesOnNote_2 v7 = some r → Gd l E K 0 0 o σ 36 [none, none, none, none] [.int v7] := by
    intro v7 h
    delta J_X12_goesOnNote_2 at h
    obtain ⟨h01, h⟩ := bz_e h
    exact g_retzp (pc := 36) hC h01 h hR dX12_goesOnNote_36
  have hJ35 : J_X12_goesOnNote_1 = some r → Gd l E K 0 0 o σ 35 [none, none, none, none] [] := by
    intro h
    delta J_X12_goesOnNote_1 at h
    refine g_iconst (pc := 35) hC ki_0 dX12_goesOnNote_35 ?_
    exact hJ36 0 h
  refine g_if_le (tgt := 35) (pc := 15) hC dX12_goesOnNote_15 (by decide) (fun c3 => ?_) (fun c3 => ?_)
  · replace h := it_t c3 h
    refine g_mask [false, false, false, false] rfl ?_
    exact hJ35 h
  · replace h := it_f c3 h
    refine g_iload_n (pc := 18) hC dX12_goesOnNote_18 rfl ?_
    refine g_if_le (tgt := 35) (pc := 19) hC dX12_goesOnNote_19 (by decide) (fun c4 => ?_) (fun c4 => ?_)
    · replace h := it_t c4 h
      refine g_mask [false, false, false, false] rfl ?_
      exact hJ35 h
    · replace h := it_f c4 h
      refine g_iload_n (pc := 22) hC dX12_goesOnNote_22 rfl ?_
      refine g_iload_n (pc := 23) hC dX12_goesOnNote_23 rfl ?_
      obtain ⟨v5, hc, h⟩ := cp_e h
      refine g_callSi (pc := 24) (As := [.int v1, .int v2]) (rest := []) hC (c_X12_apart l E v1 v2 σ v5 hc) mi_X12_apart ms_X12_apart lk_X12_163 rfl rfl (Nat.le_of_ble_eq_true rfl) ⟨by decide, by decide⟩ hab dX12_goesOnNote_24 ?_
      refine g_iconst (pc := 27) hC ki_1 dX12_goesOnNote_27 ?_
      refine g_icmp_gt (tgt := 35) (pc := 28) hC dX12_goesOnNote_28 (by decide) (fun c6 => ?_) (fun c6 => ?_)
      · replace h := it_t c6 h
        refine g_mask [false, false, false, false] rfl ?_
        exact hJ35 h
      · replace h := it_f c6 h
        refine g_iconst (pc := 31) hC ki_1 dX12_goesOnNote_31 ?_
        refine g_goto (tgt := 36) (pc := 32) hC dX12_goesOnNote_32 (by decide) ?_
        refine g_mask [false, false, false, false] rfl ?_
        exact hJ36 1 h
set_option maxRecDepth 20000 in
theorem c_X12_laysNotes (l : Launch) (E : uE) (σ : uS) (σr : uS) (h : F_X12_laysNotes σ = some σr) : CtV l E yX12_laysNotes cX12_laysNotes 3 6 137 [.ref (E.2.1 55)] σ σr := by
  refine enterV 2 [some (.ref (E.2.1 55)), none, none] (by decide +kernel) rfl (Nat.le_of_ble_eq_true rfl) (fun o K hnL hC hab hR => ?_)
  have hC : Cx E K RX12 cX12_laysNotes none 6 137 := hC
  have hN : ∀ k, k < 3 → k < K.2.2.2.2.2 := fun k hk => hnL ▸ hk
  delta F_X12_laysNotes at h
  refine g_aload_n (pc := 0) hC dX12_laysNotes_0 rfl ?_
  obtain ⟨σ1, hc, h⟩ := cp_e h
  refine g_callVv (pc := 1) (As := []) (rest := []) hC (c_X12_laysPath l E σ σ1 hc) mi_X12_laysPath mv_X12_laysPath ob_55 rfl rfl lk_X12_254 rfl rfl (Nat.le_of_ble_eq_true rfl) ⟨by decide, by decide⟩ hab dX12_laysNotes_1 ?_
  refine g_aload_n (pc := 4) hC dX12_laysNotes_4 rfl ?_
  refine g_iconst (pc := 5) hC ki_0 dX12_laysNotes_5 ?_
  obtain ⟨σ2, eσ2, h⟩ := pf_e h
  refine fp_X12_308_55 (pc := 6) hC dX12_laysNotes_6 eσ2 ?_
  refine g_iconst (pc := 9) hC ki_0 dX12_laysNotes_9 ?_
  refine g_istore_n (lv2 := [some (.ref (E.2.1 55)), some (.int 0), none]) (pc := 10) hC dX12_laysNotes_10 rfl (Or.inr rfl) (hN _ (by decide)) ?_
  have hL1 : ∀ (n : Nat) (w3 : Int32) (σ4 : uS) (z1 : uS), iter n (fun z => B_X12_laysNotes_6 z.1 z.2) (w3, σ4) = some z1 → (∀ (σ5 : uS), z1 = σ5 → Gd l E K 0 0 o σ5 107 [none, none, none] []) → Gd l E K 0 0 o σ4 11 [some (.ref (E.2.1 55)), some (.int w3), none] [] := by
    intro n
    induction n with
    | zero =>
      intro w3 σ4 z1 hi
      exact (iter_0 hi).elim
    | succ n ih1 =>
      intro w3 σ4 z1 hi1 kx1
      obtain ⟨r1, h, hi1⟩ := iter_s hi1
      replace h : B_X12_laysNotes_6 w3 σ4 = some r1 := h
      delta B_X12_laysNotes_6 at h
      refine g_iload_n (pc := 11) hC dX12_laysNotes_11 rfl ?_
      refine g_aload_n (pc := 12) hC dX12_laysNotes_12 rfl ?_
      refine fg_X12_189_55 (pc := 13) hC dX12_laysNotes_13 ?_
      refine g_icmp_ge (tgt := 107) (pc := 16) hC dX12_laysNotes_16 (by decide) (fun c6 => ?_) (fun c6 => ?_)
      · replace h := it_t c6 h
        refine g_mask [false, false, false] rfl ?_
        exact kx1 σ4 (iter_r h hi1)
      · replace h := it_f c6 h
        refine g_iload_n (pc := 19) hC dX12_laysNotes_19 rfl ?_
        refine g_iconst (pc := 20) hC ki_1 dX12_laysNotes_20 ?_
        refine g_iadd (pc := 21) hC dX12_laysNotes_21 ?_
        obtain ⟨v7, ev7, h⟩ := lt_e h
        refine g_top ev7 ?_
        refine g_istore_n (lv2 := [some (.ref (E.2.1 55)), some (.int w3), some (.int v7)]) (pc := 22) hC dX12_laysNotes_22 rfl (Or.inr rfl) (hN _ (by decide)) ?_
        have hL2 : ∀ (n : Nat) (w8 : Int32) (z2 : Int32), iter n (fun z => B_X12_laysNotes_3 σ4 z) w8 = some z2 → (∀ (v9 : Int32), z2 = v9 → Gd l E K 0 0 o σ4 45 [some (.ref (E.2.1 55)), some (.int w3), some (.int v9)] []) → Gd l E K 0 0 o σ4 23 [some (.ref (E.2.1 55)), some (.int w3), some (.int w8)] [] := by
          intro n
          induction n with
          | zero =>
            intro w8 z2 hi
            exact (iter_0 hi).elim
          | succ n ih2 =>
            intro w8 z2 hi2 kx2
            obtain ⟨r2, h, hi2⟩ := iter_s hi2
            replace h : B_X12_laysNotes_3 σ4 w8 = some r2 := h
            delta B_X12_laysNotes_3 at h
            refine g_iload_n (pc := 23) hC dX12_laysNotes_23 rfl ?_
            refine g_aload_n (pc := 24) hC dX12_laysNotes_24 rfl ?_
            refine fg_X12_189_55 (pc := 25) hC dX12_laysNotes_25 ?_
            refine g_icmp_ge (tgt := 45) (pc := 28) hC dX12_laysNotes_28 (by decide) (fun c10 => ?_) (fun c10 => ?_)
            · replace h := it_t c10 h
              exact kx2 w8 (iter_r h hi2)
            · replace h := it_f c10 h
              refine g_aload_n (pc := 31) hC dX12_laysNotes_31 rfl ?_
              refine g_iload_n (pc := 32) hC dX12_laysNotes_32 rfl ?_
              obtain ⟨v11, hc, h⟩ := cp_e h
              refine g_callVi (pc := 33) (As := [.int w8]) (rest := []) hC (c_X12_goesOnNote l E w8 σ4 v11 hc) mi_X12_goesOnNote mv_X12_goesOnNote ob_55 rfl rfl lk_X12_311 rfl rfl (Nat.le_of_ble_eq_true rfl) ⟨by decide, by decide⟩ hab dX12_laysNotes_33 ?_
              refine g_if_eq (tgt := 45) (pc := 36) hC dX12_laysNotes_36 (by decide) (fun c12 => ?_) (fun c12 => ?_)
              · replace h := it_t c12 h
                exact kx2 w8 (iter_r h hi2)
              · replace h := it_f c12 h
                obtain ⟨v13, ev13, h⟩ := lt_e h
                refine g_iinc (v := v13) (lv2 := [some (.ref (E.2.1 55)), some (.int w3), some (.int v13)]) (pc := 39) hC dX12_laysNotes_39 rfl ev13 rfl (Or.inr rfl) (hN _ (by decide)) ?_
                refine g_goto (tgt := 23) (pc := 42) hC dX12_laysNotes_42 (by decide) ?_
                exact ih2 v13 z2 (iter_l h hi2) kx2
        obtain ⟨z2, hz2, h⟩ := lp_e h
        refine hL2 FU v7 z2 hz2 (fun v9 ez => ?_)
        replace h : C_X12_laysNotes_5 w3 σ4 v9 = some r1 := by rw [ez] at h; exact h
        delta C_X12_laysNotes_5 at h
        refine g_aload_n (pc := 45) hC dX12_laysNotes_45 rfl ?_
        refine g_iload_n (pc := 46) hC dX12_laysNotes_46 rfl ?_
        obtain ⟨v14, hc, h⟩ := cp_e h
        refine g_callVi (pc := 47) (As := [.int w3]) (rest := []) hC (c_X12_lagOnPath l E w3 σ4 v14 hc) mi_X12_lagOnPath mv_X12_lagOnPath ob_55 rfl rfl lk_X12_251 rfl rfl (Nat.le_of_ble_eq_true rfl) ⟨by decide, by decide⟩ hab dX12_laysNotes_47 ?_
        have hJ102 : ∀ (σ22 : uS), J_X12_laysNotes_4 v9 σ22 = some r1 → Gd l E K 0 0 o σ22 102 [some (.ref (E.2.1 55)), none, some (.int v9)] [] := by
          intro σ22 h
          delta J_X12_laysNotes_4 at h
          refine g_iload_n (pc := 102) hC dX12_laysNotes_102 rfl ?_
          refine g_istore_n (lv2 := [some (.ref (E.2.1 55)), some (.int v9), some (.int v9)]) (pc := 103) hC dX12_laysNotes_103 rfl (Or.inr rfl) (hN _ (by decide)) ?_
          refine g_goto (tgt := 11) (pc := 104) hC dX12_laysNotes_104 (by decide) ?_
          refine g_mask [true, true, false] rfl ?_
          exact ih1 v9 σ22 z1 (iter_l h hi1) kx1
        refine g_if_le (tgt := 102) (pc := 50) hC dX12_laysNotes_50 (by decide) (fun c15 => ?_) (fun c15 => ?_)
        · replace h := it_t c15 h
          refine g_mask [true, false, true] rfl ?_
          exact hJ102 σ4 h
        · replace h := it_f c15 h
          refine g_aload_n (pc := 53) hC dX12_laysNotes_53 rfl ?_
          refine fg_X12_80_55 (pc := 54) hC dX12_laysNotes_54 ?_
          refine g_aload_n (pc := 57) hC dX12_laysNotes_57 rfl ?_
          refine fg_X12_308_55 (pc := 58) hC dX12_laysNotes_58 ?_
          refine g_iload_n (pc := 61) hC dX12_laysNotes_61 rfl ?_
          obtain ⟨σ16, eσ16, nσ16, h⟩ := wr_e h
          refine g_iast (pc := 62) hC 79 (by decide) (ar_79 _ _) nσ16 dX12_laysNotes_62 eσ16 ?_
          refine g_aload_n (pc := 63) hC dX12_laysNotes_63 rfl ?_
          refine fg_X12_83_55 (pc := 64) hC dX12_laysNotes_64 ?_
          refine g_aload_n (pc := 67) hC dX12_laysNotes_67 rfl ?_
          refine fg_X12_308_55 (pc := 68) hC dX12_laysNotes_68 ?_
          refine g_iload_n (pc := 71) hC dX12_laysNotes_71 rfl ?_
          refine g_iload_n (pc := 72) hC dX12_laysNotes_72 rfl ?_
          refine g_isub (pc := 73) hC dX12_laysNotes_73 ?_
          obtain ⟨σ17, eσ17, nσ17, h⟩ := wr_e h
          refine g_iast (pc := 74) hC 80 (by decide) (ar_80 _ _) nσ17 dX12_laysNotes_74 eσ17 ?_
          refine g_aload_n (pc := 75) hC dX12_laysNotes_75 rfl ?_
          refine fg_X12_86_55 (pc := 76) hC dX12_laysNotes_76 ?_
          refine g_aload_n (pc := 79) hC dX12_laysNotes_79 rfl ?_
          refine fg_X12_308_55 (pc := 80) hC dX12_laysNotes_80 ?_
          refine g_aload_n (pc := 83) hC dX12_laysNotes_83 rfl ?_
          refine g_iload_n (pc := 84) hC dX12_laysNotes_84 rfl ?_
          refine g_iload_n (pc := 85) hC dX12_laysNotes_85 rfl ?_
          refine g_iload_n (pc := 86) hC dX12_laysNotes_86 rfl ?_
          refine g_isub (pc := 87) hC dX12_laysNotes_87 ?_
          obtain ⟨v19, σ18, hc, h⟩ := cl_e h
          refine g_callVi (pc := 88) (As := [.int w3, .int (v9 - w3)]) (rest := [.int (σ17 55 38), .ref (E.2.1 81)]) hC (c_X12_middleOf l E w3 (v9 - w3) σ17 v19 σ18 hc) mi_X12_middleOf mv_X12_middleOf ob_55 rfl rfl lk_X12_314 rfl rfl (Nat.le_of_ble_eq_true rfl) ⟨by decide, by decide⟩ hab dX12_laysNotes_88 ?_
          obtain ⟨σ20, eσ20, nσ20, h⟩ := wr_e h
          refine g_iast (pc := 91) hC 81 (by decide) (ar_81 _ _) nσ20 dX12_laysNotes_91 eσ20 ?_
          refine g_aload_n (pc := 92) hC dX12_laysNotes_92 rfl ?_
          refine g_dup (pc := 93) hC rfl dX12_laysNotes_93 ?_
          refine fg_X12_308_55 (pc := 94) hC dX12_laysNotes_94 ?_
          refine g_iconst (pc := 97) hC ki_1 dX12_laysNotes_97 ?_
          refine g_iadd (pc := 98) hC dX12_laysNotes_98 ?_
          obtain ⟨σ21, eσ21, h⟩ := pf_e h
          refine fp_X12_308_55 (pc := 99) hC dX12_laysNotes_99 eσ21 ?_
          refine g_mask [true, false, true] rfl ?_
          exact hJ102 σ21 h
  obtain ⟨z1, hz1, h⟩ := lp_e h
  refine hL1 FU 0 σ2 z1 hz1 (fun σ5 ez => ?_)
  replace h : C_X12_laysNotes_7 σ5 = some σr := by rw [ez] at h; exact h
  delta C_X12_laysNotes_7 at h
  exact g_retv (pc := 107) hC h hR dX12_laysNotes_107
set_option maxRecDepth 20000 in
theorem c_X12_notes (l : Launch) (E : uE) (σ : uS) (r : Int32) (σr : uS) (h : F_X12_notes σ = some (r, σr)) : CtI l E yX12_notes cX12_notes 1 (some .int) 7 159 [.ref (E.2.1 55)] σ r σr := by
  refine enterI 0 [some (.ref (E.2.1 55))] (by decide +kernel) rfl (Nat.le_of_ble_eq_true rfl) (fun o K hnL hC hab hR => ?_)
  have hC : Cx E K RX12 cX12_notes (some .int) 7 159 := hC
  have hN : ∀ k, k < 1 → k < K.2.2.2.2.2 := fun k hk => hnL ▸ hk
  delta F_X12_notes at h
  refine g_aload_n (pc := 0) hC dX12_notes_0 rfl ?_
  refine g_iconst (pc := 1) hC ki_0 dX12_notes_1 ?_
  obtain ⟨σ1, eσ1, h⟩ := pf_e h
  refine fp_X12_119_55 (pc := 2) hC dX12_notes_2 eσ1 ?_
  refine g_aload_n (pc := 5) hC dX12_notes_5 rfl ?_
  obtain ⟨σ2, hc, h⟩ := cp_e h
  refine g_callVv (pc := 6) (As := []) (rest := []) hC (c_X12_laysNotes l E σ1 σ2 hc) mi_X12_laysNotes mv_X12_laysNotes ob_55 rfl rfl lk_X12_317 rfl rfl (Nat.le_of_ble_eq_true rfl) ⟨by decide, by decide⟩ hab dX12_notes_6 ?_
  refine g_aload_n (pc := 9) hC dX12_notes_9 rfl ?_
  refine fg_X12_308_55 (pc := 10) hC dX12_notes_10 ?_
  exact g_ret (pc := 13) hC h hR dX12_notes_13
set_option maxRecDepth 20000 in
theorem c_X12_note (l : Launch) (E : uE) (a1 : Int32) (a2 : Int32) (σ : uS) (r : Int32) (σr : uS) (h : F_X12_note a1 a2 σ = some (r, σr)) : CtI l E yX12_note cX12_note 3 (some .int) 7 159 [.ref (E.2.1 55), .int a1, .int a2] σ r σr := by
  refine enterI 0 [some (.ref (E.2.1 55)), some (.int a1), some (.int a2)] (by decide +kernel) rfl (Nat.le_of_ble_eq_true rfl) (fun o K hnL hC hab hR => ?_)
  have hC : Cx E K RX12 cX12_note (some .int) 7 159 := hC
  have hN : ∀ k, k < 3 → k < K.2.2.2.2.2 := fun k hk => hnL ▸ hk
  delta F_X12_note at h
  refine g_aload_n (pc := 0) hC dX12_note_0 rfl ?_
  refine g_iconst (pc := 1) hC ki_0 dX12_note_1 ?_
  obtain ⟨σ1, eσ1, h⟩ := pf_e h
  refine fp_X12_119_55 (pc := 2) hC dX12_note_2 eσ1 ?_
  refine g_aload_n (pc := 5) hC dX12_note_5 rfl ?_
  obtain ⟨σ2, hc, h⟩ := cp_e h
  refine g_callVv (pc := 6) (As := []) (rest := []) hC (c_X12_laysNotes l E σ1 σ2 hc) mi_X12_laysNotes mv_X12_laysNotes ob_55 rfl rfl lk_X12_317 rfl rfl (Nat.le_of_ble_eq_true rfl) ⟨by decide, by decide⟩ hab dX12_note_6 ?_
  refine g_aload_n (pc := 9) hC dX12_note_9 rfl ?_
  refine g_iload_n (pc := 10) hC dX12_note_10 rfl ?_
  refine g_iconst (pc := 11) hC ki_0 dX12_note_11 ?_
  refine g_aload_n (pc := 12) hC dX12_note_12 rfl ?_
  refine fg_X12_308_55 (pc := 13) hC dX12_note_13 ?_
  refine g_iconst (pc := 16) hC ki_1 dX12_note_16 ?_
  refine g_isub (pc := 17) hC dX12_note_17 ?_
  obtain ⟨v3, hc, h⟩ := cp_e h
  refine g_callSi (pc := 18) (As := [.int a1, .int 0, .int ((σ2 55 38) - 1)]) (rest := [.ref (E.2.1 55)]) hC (c_X12_isIn l E a1 0 ((σ2 55 38) - 1) σ2 v3 hc) mi_X12_isIn ms_X12_isIn lk_X12_133 rfl rfl (Nat.le_of_ble_eq_true rfl) ⟨by decide, by decide⟩ hab dX12_note_18 ?_
  have hJ38 : ∀ (v7 : Int32), J_X12_note_3 a1 a2 σ2 v7 = some (r, σr) → Gd l E K 0 0 o σ2 38 [some (.ref (E.2.1 55)), some (.int a1), some (.int a2)] [.int v7, .ref (E.2.1 55)] := by
    intro v7 h
    delta J_X12_note_3 at h
    refine g_iconst (pc := 38) hC ki_1 dX12_note_38 ?_
    obtain ⟨v9, σ8, hc, h⟩ := cl_e h
    refine g_callVi (pc := 39) (As := [.int v7, .int 1]) (rest := []) hC (c_X12_right l E v7 1 σ2 v9 σ8 hc) mi_X12_right mv_X12_right ob_55 rfl rfl lk_X12_148 rfl rfl (Nat.le_of_ble_eq_true rfl) ⟨by decide, by decide⟩ hab dX12_note_39 ?_
    refine g_if_ne (tgt := 47) (pc := 42) hC dX12_note_42 (by decide) (fun c10 => ?_) (fun c10 => ?_)
    · replace h := it_f c10 h
      refine g_iload_n (pc := 47) hC dX12_note_47 rfl ?_
      have hJ80 : ∀ (v16 : Int32), J_X12_note_2 σ8 v16 = some (r, σr) → Gd l E K 0 0 o σ8 80 [none, none, none] [.int v16] := by
        intro v16 h
        delta J_X12_note_2 at h
        exact g_ret (pc := 80) hC h hR dX12_note_80
      refine g_if_ne (tgt := 60) (pc := 48) hC dX12_note_48 (by decide) (fun c11 => ?_) (fun c11 => ?_)
      · replace h := it_f c11 h
        refine g_iload_n (pc := 60) hC dX12_note_60 rfl ?_
        refine g_iconst (pc := 61) hC ki_1 dX12_note_61 ?_
        refine g_icmp_ne (tgt := 74) (pc := 62) hC dX12_note_62 (by decide) (fun c12 => ?_) (fun c12 => ?_)
        · replace h := it_f c12 h
          refine g_aload_n (pc := 74) hC dX12_note_74 rfl ?_
          refine fg_X12_86_55 (pc := 75) hC dX12_note_75 ?_
          refine g_iload_n (pc := 78) hC dX12_note_78 rfl ?_
          obtain ⟨v13, ev13, nv13, h⟩ := rd_e h
          refine g_iald (pc := 79) hC 81 (by decide) (ar_81 _ _ _) nv13 dX12_note_79 ?_
          refine g_top ev13 ?_
          refine g_mask [false, false, false] rfl ?_
          exact hJ80 v13 h
        · replace h := it_t c12 h
          refine g_aload_n (pc := 65) hC dX12_note_65 rfl ?_
          refine fg_X12_83_55 (pc := 66) hC dX12_note_66 ?_
          refine g_iload_n (pc := 69) hC dX12_note_69 rfl ?_
          obtain ⟨v14, ev14, nv14, h⟩ := rd_e h
          refine g_iald (pc := 70) hC 80 (by decide) (ar_80 _ _ _) nv14 dX12_note_70 ?_
          refine g_top ev14 ?_
          refine g_goto (tgt := 80) (pc := 71) hC dX12_note_71 (by decide) ?_
          refine g_mask [false, false, false] rfl ?_
          exact hJ80 v14 h
      · replace h := it_t c11 h
        refine g_aload_n (pc := 51) hC dX12_note_51 rfl ?_
        refine fg_X12_80_55 (pc := 52) hC dX12_note_52 ?_
        refine g_iload_n (pc := 55) hC dX12_note_55 rfl ?_
        obtain ⟨v15, ev15, nv15, h⟩ := rd_e h
        refine g_iald (pc := 56) hC 79 (by decide) (ar_79 _ _ _) nv15 dX12_note_56 ?_
        refine g_top ev15 ?_
        refine g_goto (tgt := 80) (pc := 57) hC dX12_note_57 (by decide) ?_
        refine g_mask [false, false, false] rfl ?_
        exact hJ80 v15 h
    · replace h := it_t c10 h
      refine g_iconst (pc := 45) hC ki_0 dX12_note_45 ?_
      exact g_ret (pc := 46) hC h hR dX12_note_46
  have hJ37 : J_X12_note_1 a1 a2 σ2 = some (r, σr) → Gd l E K 0 0 o σ2 37 [some (.ref (E.2.1 55)), some (.int a1), some (.int a2)] [.ref (E.2.1 55)] := by
    intro h
    delta J_X12_note_1 at h
    refine g_iconst (pc := 37) hC ki_0 dX12_note_37 ?_
    exact hJ38 0 h
  refine g_if_eq (tgt := 37) (pc := 21) hC dX12_note_21 (by decide) (fun c4 => ?_) (fun c4 => ?_)
  · replace h := it_t c4 h
    exact hJ37 h
  · replace h := it_f c4 h
    refine g_iload_n (pc := 24) hC dX12_note_24 rfl ?_
    refine g_iconst (pc := 25) hC ki_0 dX12_note_25 ?_
    refine g_iconst (pc := 26) hC ki_2 dX12_note_26 ?_
    obtain ⟨v5, hc, h⟩ := cp_e h
    refine g_callSi (pc := 27) (As := [.int a2, .int 0, .int 2]) (rest := [.ref (E.2.1 55)]) hC (c_X12_isIn l E a2 0 2 σ2 v5 hc) mi_X12_isIn ms_X12_isIn lk_X12_133 rfl rfl (Nat.le_of_ble_eq_true rfl) ⟨by decide, by decide⟩ hab dX12_note_27 ?_
    refine g_if_eq (tgt := 37) (pc := 30) hC dX12_note_30 (by decide) (fun c6 => ?_) (fun c6 => ?_)
    · replace h := it_t c6 h
      exact hJ37 h
    · replace h := it_f c6 h
      refine g_iconst (pc := 33) hC ki_1 dX12_note_33 ?_
      refine g_goto (tgt := 38) (pc := 34) hC dX12_note_34 (by decide) ?_
      exact hJ38 1 h
set_option maxRecDepth 20000 in
theorem c_X12_steady (l : Launch) (E : uE) (a1 : Int32) (σ : uS) (r : Int32) (σr : uS) (h : F_X12_steady a1 σ = some (r, σr)) : CtI l E yX12_steady cX12_steady 6 (some .int) 6 137 [.ref (E.2.1 55), .int a1] σ r σr := by
  refine enterI 4 [some (.ref (E.2.1 55)), some (.int a1), none, none, none, none] (by decide +kernel) rfl (Nat.le_of_ble_eq_true rfl) (fun o K hnL hC hab hR => ?_)
  have hC : Cx E K RX12 cX12_steady (some .int) 6 137 := hC
  have hN : ∀ k, k < 6 → k < K.2.2.2.2.2 := fun k hk => hnL ▸ hk
  delta F_X12_steady at h
  refine g_aload_n (pc := 0) hC dX12_steady_0 rfl ?_
  refine g_iconst (pc := 1) hC ki_0 dX12_steady_1 ?_
  obtain ⟨σ1, eσ1, h⟩ := pf_e h
  refine fp_X12_119_55 (pc := 2) hC dX12_steady_2 eσ1 ?_
  refine g_aload_n (pc := 5) hC dX12_steady_5 rfl ?_
  refine g_iload_n (pc := 6) hC dX12_steady_6 rfl ?_
  refine g_iconst (pc := 7) hC ki_0 dX12_steady_7 ?_
  refine g_iconst (pc := 8) hC ki_2 dX12_steady_8 ?_
  obtain ⟨v2, hc, h⟩ := cp_e h
  refine g_callSi (pc := 9) (As := [.int a1, .int 0, .int 2]) (rest := [.ref (E.2.1 55)]) hC (c_X12_isIn l E a1 0 2 σ1 v2 hc) mi_X12_isIn ms_X12_isIn lk_X12_133 rfl rfl (Nat.le_of_ble_eq_true rfl) ⟨by decide, by decide⟩ hab dX12_steady_9 ?_
  refine g_iconst (pc := 12) hC ki_1 dX12_steady_12 ?_
  obtain ⟨v4, σ3, hc, h⟩ := cl_e h
  refine g_callVi (pc := 13) (As := [.int v2, .int 1]) (rest := []) hC (c_X12_right l E v2 1 σ1 v4 σ3 hc) mi_X12_right mv_X12_right ob_55 rfl rfl lk_X12_148 rfl rfl (Nat.le_of_ble_eq_true rfl) ⟨by decide, by decide⟩ hab dX12_steady_13 ?_
  refine g_if_ne (tgt := 21) (pc := 16) hC dX12_steady_16 (by decide) (fun c5 => ?_) (fun c5 => ?_)
  · replace h := it_f c5 h
    refine g_aload_n (pc := 21) hC dX12_steady_21 rfl ?_
    obtain ⟨σ6, hc, h⟩ := cp_e h
    refine g_callVv (pc := 22) (As := []) (rest := []) hC (c_X12_laysPath l E σ3 σ6 hc) mi_X12_laysPath mv_X12_laysPath ob_55 rfl rfl lk_X12_254 rfl rfl (Nat.le_of_ble_eq_true rfl) ⟨by decide, by decide⟩ hab dX12_steady_22 ?_
    refine g_iconst (pc := 25) hC ki_m1 dX12_steady_25 ?_
    refine g_istore_n (lv2 := [some (.ref (E.2.1 55)), some (.int a1), some (.int (-1)), none, none, none]) (pc := 26) hC dX12_steady_26 rfl (Or.inr rfl) (hN _ (by decide)) ?_
    refine g_iconst (pc := 27) hC ki_0 dX12_steady_27 ?_
    refine g_istore_n (lv2 := [some (.ref (E.2.1 55)), some (.int a1), some (.int (-1)), some (.int 0), none, none]) (pc := 28) hC dX12_steady_28 rfl (Or.inr rfl) (hN _ (by decide)) ?_
    refine g_iconst (pc := 29) hC ki_0 dX12_steady_29 ?_
    refine g_istore (lv2 := [some (.ref (E.2.1 55)), some (.int a1), some (.int (-1)), some (.int 0), some (.int 0), none]) (pc := 30) hC dX12_steady_30 rfl (Or.inr rfl) (hN _ (by decide)) ?_
    have hL1 : ∀ (n : Nat) (w7 : Int32) (w8 : Int32) (w9 : Int32) (z1 : Int32 × Int32), iter n (fun z => B_X12_steady_6 σ6 z.1 z.2.1 z.2.2) (w7, w8, w9) = some z1 → (∀ (v10 : Int32) (v11 : Int32), z1 = (v10, v11) → Gd l E K 0 0 o σ6 111 [some (.ref (E.2.1 55)), some (.int a1), some (.int v10), some (.int v11), none, none] []) → Gd l E K 0 0 o σ6 32 [some (.ref (E.2.1 55)), some (.int a1), some (.int w7), some (.int w8), some (.int w9), none] [] := by
      intro n
      induction n with
      | zero =>
        intro w7 w8 w9 z1 hi
        exact (iter_0 hi).elim
      | succ n ih1 =>
        intro w7 w8 w9 z1 hi1 kx1
        obtain ⟨r1, h, hi1⟩ := iter_s hi1
        replace h : B_X12_steady_6 σ6 w7 w8 w9 = some r1 := h
        delta B_X12_steady_6 at h
        refine g_iload (pc := 32) hC dX12_steady_32 rfl ?_
        refine g_aload_n (pc := 34) hC dX12_steady_34 rfl ?_
        refine fg_X12_189_55 (pc := 35) hC dX12_steady_35 ?_
        refine g_icmp_ge (tgt := 111) (pc := 38) hC dX12_steady_38 (by decide) (fun c12 => ?_) (fun c12 => ?_)
        · replace h := it_t c12 h
          refine g_mask [true, true, true, true, false, false] rfl ?_
          exact kx1 w7 w8 (iter_r h hi1)
        · replace h := it_f c12 h
          refine g_iload (pc := 41) hC dX12_steady_41 rfl ?_
          refine g_iconst (pc := 43) hC ki_1 dX12_steady_43 ?_
          refine g_iadd (pc := 44) hC dX12_steady_44 ?_
          obtain ⟨v13, ev13, h⟩ := lt_e h
          refine g_top ev13 ?_
          refine g_istore (lv2 := [some (.ref (E.2.1 55)), some (.int a1), some (.int w7), some (.int w8), some (.int w9), some (.int v13)]) (pc := 45) hC dX12_steady_45 rfl (Or.inr rfl) (hN _ (by decide)) ?_
          have hL2 : ∀ (n : Nat) (w14 : Int32) (z2 : Int32), iter n (fun z => B_X12_steady_3 w9 σ6 z) w14 = some z2 → (∀ (v15 : Int32), z2 = v15 → Gd l E K 0 0 o σ6 77 [some (.ref (E.2.1 55)), some (.int a1), some (.int w7), some (.int w8), some (.int w9), some (.int v15)] []) → Gd l E K 0 0 o σ6 47 [some (.ref (E.2.1 55)), some (.int a1), some (.int w7), some (.int w8), some (.int w9), some (.int w14)] [] := by
            intro n
            induction n with
            | zero =>
              intro w14 z2 hi
              exact (iter_0 hi).elim
            | succ n ih2 =>
              intro w14 z2 hi2 kx2
              obtain ⟨r2, h, hi2⟩ := iter_s hi2
              replace h : B_X12_steady_3 w9 σ6 w14 = some r2 := h
              delta B_X12_steady_3 at h
              refine g_iload (pc := 47) hC dX12_steady_47 rfl ?_
              refine g_aload_n (pc := 49) hC dX12_steady_49 rfl ?_
              refine fg_X12_189_55 (pc := 50) hC dX12_steady_50 ?_
              refine g_icmp_ge (tgt := 77) (pc := 53) hC dX12_steady_53 (by decide) (fun c16 => ?_) (fun c16 => ?_)
              · replace h := it_t c16 h
                exact kx2 w14 (iter_r h hi2)
              · replace h := it_f c16 h
                refine g_aload_n (pc := 56) hC dX12_steady_56 rfl ?_
                refine g_iload (pc := 57) hC dX12_steady_57 rfl ?_
                obtain ⟨v17, hc, h⟩ := cp_e h
                refine g_callVi (pc := 59) (As := [.int w14]) (rest := []) hC (c_X12_lagOnPath l E w14 σ6 v17 hc) mi_X12_lagOnPath mv_X12_lagOnPath ob_55 rfl rfl lk_X12_251 rfl rfl (Nat.le_of_ble_eq_true rfl) ⟨by decide, by decide⟩ hab dX12_steady_59 ?_
                refine g_aload_n (pc := 62) hC dX12_steady_62 rfl ?_
                refine g_iload (pc := 63) hC dX12_steady_63 rfl ?_
                obtain ⟨v18, hc, h⟩ := cp_e h
                refine g_callVi (pc := 65) (As := [.int w9]) (rest := [.int v17]) hC (c_X12_lagOnPath l E w9 σ6 v18 hc) mi_X12_lagOnPath mv_X12_lagOnPath ob_55 rfl rfl lk_X12_251 rfl rfl (Nat.le_of_ble_eq_true rfl) ⟨by decide, by decide⟩ hab dX12_steady_65 ?_
                refine g_icmp_ne (tgt := 77) (pc := 68) hC dX12_steady_68 (by decide) (fun c19 => ?_) (fun c19 => ?_)
                · replace h := it_f c19 h
                  exact kx2 w14 (iter_r h hi2)
                · replace h := it_t c19 h
                  obtain ⟨v20, ev20, h⟩ := lt_e h
                  refine g_iinc (v := v20) (lv2 := [some (.ref (E.2.1 55)), some (.int a1), some (.int w7), some (.int w8), some (.int w9), some (.int v20)]) (pc := 71) hC dX12_steady_71 rfl ev20 rfl (Or.inr rfl) (hN _ (by decide)) ?_
                  refine g_goto (tgt := 47) (pc := 74) hC dX12_steady_74 (by decide) ?_
                  exact ih2 v20 z2 (iter_l h hi2) kx2
          obtain ⟨z2, hz2, h⟩ := lp_e h
          refine hL2 FU v13 z2 hz2 (fun v15 ez => ?_)
          replace h : C_X12_steady_5 w7 w8 w9 σ6 v15 = some r1 := by rw [ez] at h; exact h
          delta C_X12_steady_5 at h
          refine g_aload_n (pc := 77) hC dX12_steady_77 rfl ?_
          refine g_iload (pc := 78) hC dX12_steady_78 rfl ?_
          obtain ⟨v21, hc, h⟩ := cp_e h
          refine g_callVi (pc := 80) (As := [.int w9]) (rest := []) hC (c_X12_lagOnPath l E w9 σ6 v21 hc) mi_X12_lagOnPath mv_X12_lagOnPath ob_55 rfl rfl lk_X12_251 rfl rfl (Nat.le_of_ble_eq_true rfl) ⟨by decide, by decide⟩ hab dX12_steady_80 ?_
          have hJ104 : ∀ (v25 : Int32) (v26 : Int32), J_X12_steady_4 v15 v25 v26 = some r1 → Gd l E K 0 0 o σ6 104 [some (.ref (E.2.1 55)), some (.int a1), some (.int v25), some (.int v26), none, some (.int v15)] [] := by
            intro v25 v26 h
            delta J_X12_steady_4 at h
            refine g_iload (pc := 104) hC dX12_steady_104 rfl ?_
            refine g_istore (lv2 := [some (.ref (E.2.1 55)), some (.int a1), some (.int v25), some (.int v26), some (.int v15), some (.int v15)]) (pc := 106) hC dX12_steady_106 rfl (Or.inr rfl) (hN _ (by decide)) ?_
            refine g_goto (tgt := 32) (pc := 108) hC dX12_steady_108 (by decide) ?_
            refine g_mask [true, true, true, true, true, false] rfl ?_
            exact ih1 v25 v26 v15 z1 (iter_l h hi1) kx1
          refine g_if_le (tgt := 104) (pc := 83) hC dX12_steady_83 (by decide) (fun c22 => ?_) (fun c22 => ?_)
          · replace h := it_t c22 h
            refine g_mask [true, true, true, true, false, true] rfl ?_
            exact hJ104 w7 w8 h
          · replace h := it_f c22 h
            refine g_iload (pc := 86) hC dX12_steady_86 rfl ?_
            refine g_iload (pc := 88) hC dX12_steady_88 rfl ?_
            refine g_isub (pc := 90) hC dX12_steady_90 ?_
            refine g_iload_n (pc := 91) hC dX12_steady_91 rfl ?_
            refine g_icmp_le (tgt := 104) (pc := 92) hC dX12_steady_92 (by decide) (fun c23 => ?_) (fun c23 => ?_)
            · replace h := it_t c23 h
              refine g_mask [true, true, true, true, false, true] rfl ?_
              exact hJ104 w7 w8 h
            · replace h := it_f c23 h
              refine g_iload (pc := 95) hC dX12_steady_95 rfl ?_
              refine g_istore_n (lv2 := [some (.ref (E.2.1 55)), some (.int a1), some (.int w9), some (.int w8), some (.int w9), some (.int v15)]) (pc := 97) hC dX12_steady_97 rfl (Or.inr rfl) (hN _ (by decide)) ?_
              refine g_iload (pc := 98) hC dX12_steady_98 rfl ?_
              refine g_iload (pc := 100) hC dX12_steady_100 rfl ?_
              refine g_isub (pc := 102) hC dX12_steady_102 ?_
              obtain ⟨v24, ev24, h⟩ := lt_e h
              refine g_top ev24 ?_
              refine g_istore_n (lv2 := [some (.ref (E.2.1 55)), some (.int a1), some (.int w9), some (.int v24), some (.int w9), some (.int v15)]) (pc := 103) hC dX12_steady_103 rfl (Or.inr rfl) (hN _ (by decide)) ?_
              refine g_mask [true, true, true, true, false, true] rfl ?_
              exact hJ104 w9 v24 h
    obtain ⟨z1, hz1, h⟩ := lp_e h
    refine hL1 FU (-1) 0 0 z1 hz1 (fun v10 v11 ez => ?_)
    replace h : C_X12_steady_8 a1 σ6 v10 v11 = some (r, σr) := by rw [ez] at h; exact h
    delta C_X12_steady_8 at h
    refine g_iload_n (pc := 111) hC dX12_steady_111 rfl ?_
    refine g_iconst (pc := 112) hC ki_2 dX12_steady_112 ?_
    refine g_icmp_ne (tgt := 131) (pc := 113) hC dX12_steady_113 (by decide) (fun c27 => ?_) (fun c27 => ?_)
    · replace h := it_f c27 h
      refine g_iload_n (pc := 131) hC dX12_steady_131 rfl ?_
      obtain ⟨v29, ev29, h⟩ := lt_e h
      have hJ140 : Gd l E K 0 0 o σ6 140 [none, none, none, none, none, none] [.int v29] := by
        exact g_ret (pc := 140) hC h hR dX12_steady_140
      refine g_if_ne (tgt := 139) (pc := 132) hC dX12_steady_132 (by decide) (fun c28 => ?_) (fun c28 => ?_)
      · refine g_iload_n (pc := 139) hC dX12_steady_139 rfl ?_
        refine g_mask [false, false, false, false, false, false] rfl ?_
        exact g_top (iv_f c28 ev29) hJ140
      · refine g_iload_n (pc := 135) hC dX12_steady_135 rfl ?_
        refine g_goto (tgt := 140) (pc := 136) hC dX12_steady_136 (by decide) ?_
        refine g_mask [false, false, false, false, false, false] rfl ?_
        exact g_top (iv_t c28 ev29) hJ140
    · replace h := it_t c27 h
      refine g_iload_n (pc := 116) hC dX12_steady_116 rfl ?_
      refine g_iconst (pc := 117) hC ki_m1 dX12_steady_117 ?_
      have hJ130 : ∀ (v32 : Int32), J_X12_steady_7 σ6 v32 = some (r, σr) → Gd l E K 0 0 o σ6 130 [none, none, none, none, none, none] [.int v32] := by
        intro v32 h
        delta J_X12_steady_7 at h
        exact g_ret (pc := 130) hC h hR dX12_steady_130
      refine g_icmp_ne (tgt := 125) (pc := 118) hC dX12_steady_118 (by decide) (fun c30 => ?_) (fun c30 => ?_)
      · replace h := it_f c30 h
        refine g_aload_n (pc := 125) hC dX12_steady_125 rfl ?_
        refine g_iload_n (pc := 126) hC dX12_steady_126 rfl ?_
        obtain ⟨v31, hc, h⟩ := cp_e h
        refine g_callVi (pc := 127) (As := [.int v10]) (rest := []) hC (c_X12_lagOnPath l E v10 σ6 v31 hc) mi_X12_lagOnPath mv_X12_lagOnPath ob_55 rfl rfl lk_X12_251 rfl rfl (Nat.le_of_ble_eq_true rfl) ⟨by decide, by decide⟩ hab dX12_steady_127 ?_
        refine g_mask [false, false, false, false, false, false] rfl ?_
        exact hJ130 v31 h
      · replace h := it_t c30 h
        refine g_iconst (pc := 121) hC ki_0 dX12_steady_121 ?_
        refine g_goto (tgt := 130) (pc := 122) hC dX12_steady_122 (by decide) ?_
        refine g_mask [false, false, false, false, false, false] rfl ?_
        exact hJ130 0 h
  · replace h := it_t c5 h
    refine g_iconst (pc := 19) hC ki_0 dX12_steady_19 ?_
    exact g_ret (pc := 20) hC h hR dX12_steady_20
set_option maxRecDepth 20000 in
theorem c_X12_laysOften (l : Launch) (E : uE) (σ : uS) (σr : uS) (h : F_X12_laysOften σ = some σr) : CtV l E yX12_laysOften cX12_laysOften 2 6 137 [.ref (E.2.1 55)] σ σr := by
  refine enterV 1 [some (.ref (E.2.1 55)), none] (by decide +kernel) rfl (Nat.le_of_ble_eq_true rfl) (fun o K hnL hC hab hR => ?_)
  have hC : Cx E K RX12 cX12_laysOften none 6 137 := hC
  have hN : ∀ k, k < 2 → k < K.2.2.2.2.2 := fun k hk => hnL ▸ hk
  delta F_X12_laysOften at h
  refine g_aload_n (pc := 0) hC dX12_laysOften_0 rfl ?_
  obtain ⟨σ1, hc, h⟩ := cp_e h
  refine g_callVv (pc := 1) (As := []) (rest := []) hC (c_X12_laysPath l E σ σ1 hc) mi_X12_laysPath mv_X12_laysPath ob_55 rfl rfl lk_X12_254 rfl rfl (Nat.le_of_ble_eq_true rfl) ⟨by decide, by decide⟩ hab dX12_laysOften_1 ?_
  refine g_iconst (pc := 4) hC ki_0 dX12_laysOften_4 ?_
  refine g_istore_n (lv2 := [some (.ref (E.2.1 55)), some (.int 0)]) (pc := 5) hC dX12_laysOften_5 rfl (Or.inr rfl) (hN _ (by decide)) ?_
  have hL1 : ∀ (n : Nat) (w2 : Int32) (σ3 : uS) (z1 : uS), iter n (fun z => B_X12_laysOften_2 z.1 z.2) (w2, σ3) = some z1 → (∀ (σ4 : uS), z1 = σ4 → Gd l E K 0 0 o σ4 25 [some (.ref (E.2.1 55)), none] []) → Gd l E K 0 0 o σ3 6 [some (.ref (E.2.1 55)), some (.int w2)] [] := by
    intro n
    induction n with
    | zero =>
      intro w2 σ3 z1 hi
      exact (iter_0 hi).elim
    | succ n ih1 =>
      intro w2 σ3 z1 hi1 kx1
      obtain ⟨r1, h, hi1⟩ := iter_s hi1
      replace h : B_X12_laysOften_2 w2 σ3 = some r1 := h
      delta B_X12_laysOften_2 at h
      refine g_iload_n (pc := 6) hC dX12_laysOften_6 rfl ?_
      refine g_bipush (pc := 7) hC kb_50 dX12_laysOften_7 ?_
      refine g_icmp_ge (tgt := 25) (pc := 9) hC dX12_laysOften_9 (by decide) (fun c5 => ?_) (fun c5 => ?_)
      · replace h := it_t c5 h
        refine g_mask [true, false] rfl ?_
        exact kx1 σ3 (iter_r h hi1)
      · replace h := it_f c5 h
        refine g_aload_n (pc := 12) hC dX12_laysOften_12 rfl ?_
        refine fg_X12_92_55 (pc := 13) hC dX12_laysOften_13 ?_
        refine g_iload_n (pc := 16) hC dX12_laysOften_16 rfl ?_
        refine g_iconst (pc := 17) hC ki_0 dX12_laysOften_17 ?_
        obtain ⟨σ6, eσ6, nσ6, h⟩ := wr_e h
        refine g_iast (pc := 18) hC 83 (by decide) (ar_83 _ _) nσ6 dX12_laysOften_18 eσ6 ?_
        obtain ⟨v7, ev7, h⟩ := lt_e h
        refine g_iinc (v := v7) (lv2 := [some (.ref (E.2.1 55)), some (.int v7)]) (pc := 19) hC dX12_laysOften_19 rfl ev7 rfl (Or.inr rfl) (hN _ (by decide)) ?_
        refine g_goto (tgt := 6) (pc := 22) hC dX12_laysOften_22 (by decide) ?_
        exact ih1 v7 σ6 z1 (iter_l h hi1) kx1
  obtain ⟨z1, hz1, h⟩ := lp_e h
  refine hL1 FU 0 σ1 z1 hz1 (fun σ4 ez => ?_)
  replace h : C_X12_laysOften_6 σ4 = some σr := by rw [ez] at h; exact h
  delta C_X12_laysOften_6 at h
  refine g_iconst (pc := 25) hC ki_0 dX12_laysOften_25 ?_
  refine g_istore_n (lv2 := [some (.ref (E.2.1 55)), some (.int 0)]) (pc := 26) hC dX12_laysOften_26 rfl (Or.inr rfl) (hN _ (by decide)) ?_
  have hL3 : ∀ (n : Nat) (w8 : Int32) (σ9 : uS) (z3 : uS), iter n (fun z => B_X12_laysOften_4 z.1 z.2) (w8, σ9) = some z3 → (∀ (σ10 : uS), z3 = σ10 → Gd l E K 0 0 o σ10 55 [some (.ref (E.2.1 55)), none] []) → Gd l E K 0 0 o σ9 27 [some (.ref (E.2.1 55)), some (.int w8)] [] := by
    intro n
    induction n with
    | zero =>
      intro w8 σ9 z3 hi
      exact (iter_0 hi).elim
    | succ n ih3 =>
      intro w8 σ9 z3 hi3 kx3
      obtain ⟨r3, h, hi3⟩ := iter_s hi3
      replace h : B_X12_laysOften_4 w8 σ9 = some r3 := h
      delta B_X12_laysOften_4 at h
      refine g_iload_n (pc := 27) hC dX12_laysOften_27 rfl ?_
      refine g_aload_n (pc := 28) hC dX12_laysOften_28 rfl ?_
      refine fg_X12_189_55 (pc := 29) hC dX12_laysOften_29 ?_
      refine g_icmp_ge (tgt := 55) (pc := 32) hC dX12_laysOften_32 (by decide) (fun c11 => ?_) (fun c11 => ?_)
      · replace h := it_t c11 h
        refine g_mask [true, false] rfl ?_
        exact kx3 σ9 (iter_r h hi3)
      · replace h := it_f c11 h
        refine g_aload_n (pc := 35) hC dX12_laysOften_35 rfl ?_
        refine fg_X12_92_55 (pc := 36) hC dX12_laysOften_36 ?_
        refine g_aload_n (pc := 39) hC dX12_laysOften_39 rfl ?_
        refine g_iload_n (pc := 40) hC dX12_laysOften_40 rfl ?_
        obtain ⟨v12, hc, h⟩ := cp_e h
        refine g_callVi (pc := 41) (As := [.int w8]) (rest := [.ref (E.2.1 83)]) hC (c_X12_lagOnPath l E w8 σ9 v12 hc) mi_X12_lagOnPath mv_X12_lagOnPath ob_55 rfl rfl lk_X12_251 rfl rfl (Nat.le_of_ble_eq_true rfl) ⟨by decide, by decide⟩ hab dX12_laysOften_41 ?_
        refine g_dup2 (pc := 44) hC rfl rfl dX12_laysOften_44 ?_
        obtain ⟨v13, ev13, nv13, h⟩ := rd_e h
        refine g_iald (pc := 45) hC 83 (by decide) (ar_83 _ _ _) nv13 dX12_laysOften_45 ?_
        refine g_top ev13 ?_
        refine g_iconst (pc := 46) hC ki_1 dX12_laysOften_46 ?_
        refine g_iadd (pc := 47) hC dX12_laysOften_47 ?_
        obtain ⟨σ14, eσ14, nσ14, h⟩ := wr_e h
        refine g_iast (pc := 48) hC 83 (by decide) (ar_83 _ _) nσ14 dX12_laysOften_48 eσ14 ?_
        obtain ⟨v15, ev15, h⟩ := lt_e h
        refine g_iinc (v := v15) (lv2 := [some (.ref (E.2.1 55)), some (.int v15)]) (pc := 49) hC dX12_laysOften_49 rfl ev15 rfl (Or.inr rfl) (hN _ (by decide)) ?_
        refine g_goto (tgt := 27) (pc := 52) hC dX12_laysOften_52 (by decide) ?_
        exact ih3 v15 σ14 z3 (iter_l h hi3) kx3
  obtain ⟨z3, hz3, h⟩ := lp_e h
  refine hL3 FU 0 σ4 z3 hz3 (fun σ10 ez => ?_)
  replace h : C_X12_laysOften_5 σ10 = some σr := by rw [ez] at h; exact h
  delta C_X12_laysOften_5 at h
  refine g_aload_n (pc := 55) hC dX12_laysOften_55 rfl ?_
  refine fg_X12_92_55 (pc := 56) hC dX12_laysOften_56 ?_
  refine g_iconst (pc := 59) hC ki_0 dX12_laysOften_59 ?_
  refine g_iconst (pc := 60) hC ki_0 dX12_laysOften_60 ?_
  obtain ⟨σ16, eσ16, nσ16, h⟩ := wr_e h
  refine g_iast (pc := 61) hC 83 (by decide) (ar_83 _ _) nσ16 dX12_laysOften_61 eσ16 ?_
  exact g_retv (pc := 62) hC h hR dX12_laysOften_62
set_option maxRecDepth 20000 in
theorem c_X12_lags (l : Launch) (E : uE) (σ : uS) (r : Int32) (σr : uS) (h : F_X12_lags σ = some (r, σr)) : CtI l E yX12_lags cX12_lags 3 (some .int) 7 158 [.ref (E.2.1 55)] σ r σr := by
  refine enterI 2 [some (.ref (E.2.1 55)), none, none] (by decide +kernel) rfl (Nat.le_of_ble_eq_true rfl) (fun o K hnL hC hab hR => ?_)
  have hC : Cx E K RX12 cX12_lags (some .int) 7 158 := hC
  have hN : ∀ k, k < 3 → k < K.2.2.2.2.2 := fun k hk => hnL ▸ hk
  delta F_X12_lags at h
  refine g_aload_n (pc := 0) hC dX12_lags_0 rfl ?_
  refine g_iconst (pc := 1) hC ki_0 dX12_lags_1 ?_
  obtain ⟨σ1, eσ1, h⟩ := pf_e h
  refine fp_X12_119_55 (pc := 2) hC dX12_lags_2 eσ1 ?_
  refine g_aload_n (pc := 5) hC dX12_lags_5 rfl ?_
  obtain ⟨σ2, hc, h⟩ := cp_e h
  refine g_callVv (pc := 6) (As := []) (rest := []) hC (c_X12_laysOften l E σ1 σ2 hc) mi_X12_laysOften mv_X12_laysOften ob_55 rfl rfl lk_X12_320 rfl rfl (Nat.le_of_ble_eq_true rfl) ⟨by decide, by decide⟩ hab dX12_lags_6 ?_
  refine g_iconst (pc := 9) hC ki_0 dX12_lags_9 ?_
  refine g_istore_n (lv2 := [some (.ref (E.2.1 55)), some (.int 0), none]) (pc := 10) hC dX12_lags_10 rfl (Or.inr rfl) (hN _ (by decide)) ?_
  refine g_iconst (pc := 11) hC ki_1 dX12_lags_11 ?_
  refine g_istore_n (lv2 := [some (.ref (E.2.1 55)), some (.int 0), some (.int 1)]) (pc := 12) hC dX12_lags_12 rfl (Or.inr rfl) (hN _ (by decide)) ?_
  have hL1 : ∀ (n : Nat) (w3 : Int32) (w4 : Int32) (z1 : Int32), iter n (fun z => B_X12_lags_2 σ2 z.1 z.2) (w3, w4) = some z1 → (∀ (v5 : Int32), z1 = v5 → Gd l E K 0 0 o σ2 42 [none, some (.int v5), none] []) → Gd l E K 0 0 o σ2 13 [some (.ref (E.2.1 55)), some (.int w3), some (.int w4)] [] := by
    intro n
    induction n with
    | zero =>
      intro w3 w4 z1 hi
      exact (iter_0 hi).elim
    | succ n ih1 =>
      intro w3 w4 z1 hi1 kx1
      obtain ⟨r1, h, hi1⟩ := iter_s hi1
      replace h : B_X12_lags_2 σ2 w3 w4 = some r1 := h
      delta B_X12_lags_2 at h
      refine g_iload_n (pc := 13) hC dX12_lags_13 rfl ?_
      refine g_bipush (pc := 14) hC kb_50 dX12_lags_14 ?_
      refine g_icmp_ge (tgt := 42) (pc := 16) hC dX12_lags_16 (by decide) (fun c6 => ?_) (fun c6 => ?_)
      · replace h := it_t c6 h
        refine g_mask [false, true, false] rfl ?_
        exact kx1 w3 (iter_r h hi1)
      · replace h := it_f c6 h
        refine g_iload_n (pc := 19) hC dX12_lags_19 rfl ?_
        refine g_aload_n (pc := 20) hC dX12_lags_20 rfl ?_
        refine fg_X12_92_55 (pc := 21) hC dX12_lags_21 ?_
        refine g_iload_n (pc := 24) hC dX12_lags_24 rfl ?_
        obtain ⟨v7, ev7, nv7, h⟩ := rd_e h
        refine g_iald (pc := 25) hC 83 (by decide) (ar_83 _ _ _) nv7 dX12_lags_25 ?_
        refine g_top ev7 ?_
        obtain ⟨v9, ev9, h⟩ := lt_e h
        have hJ34 : Gd l E K 0 0 o σ2 34 [some (.ref (E.2.1 55)), none, some (.int w4)] [.int v9, .int w3] := by
          refine g_iadd (pc := 34) hC dX12_lags_34 ?_
          obtain ⟨v10, ev10, h⟩ := lt_e h
          refine g_top ev10 ?_
          refine g_istore_n (lv2 := [some (.ref (E.2.1 55)), some (.int v10), some (.int w4)]) (pc := 35) hC dX12_lags_35 rfl (Or.inr rfl) (hN _ (by decide)) ?_
          obtain ⟨v11, ev11, h⟩ := lt_e h
          refine g_iinc (v := v11) (lv2 := [some (.ref (E.2.1 55)), some (.int v10), some (.int v11)]) (pc := 36) hC dX12_lags_36 rfl ev11 rfl (Or.inr rfl) (hN _ (by decide)) ?_
          refine g_goto (tgt := 13) (pc := 39) hC dX12_lags_39 (by decide) ?_
          exact ih1 v10 v11 z1 (iter_l h hi1) kx1
        refine g_if_le (tgt := 33) (pc := 26) hC dX12_lags_26 (by decide) (fun c8 => ?_) (fun c8 => ?_)
        · refine g_iconst (pc := 33) hC ki_0 dX12_lags_33 ?_
          refine g_mask [true, false, true] rfl ?_
          exact g_top (iv_t c8 ev9) hJ34
        · refine g_iconst (pc := 29) hC ki_1 dX12_lags_29 ?_
          refine g_goto (tgt := 34) (pc := 30) hC dX12_lags_30 (by decide) ?_
          refine g_mask [true, false, true] rfl ?_
          exact g_top (iv_f c8 ev9) hJ34
  obtain ⟨z1, hz1, h⟩ := lp_e h
  refine hL1 FU 0 1 z1 hz1 (fun v5 ez => ?_)
  replace h : C_X12_lags_3 σ2 v5 = some (r, σr) := by rw [ez] at h; exact h
  delta C_X12_lags_3 at h
  refine g_iload_n (pc := 42) hC dX12_lags_42 rfl ?_
  exact g_ret (pc := 43) hC h hR dX12_lags_43
set_option maxRecDepth 20000 in
theorem c_X12_lagAt (l : Launch) (E : uE) (a1 : Int32) (a2 : Int32) (σ : uS) (r : Int32) (σr : uS) (h : F_X12_lagAt a1 a2 σ = some (r, σr)) : CtI l E yX12_lagAt cX12_lagAt 5 (some .int) 7 158 [.ref (E.2.1 55), .int a1, .int a2] σ r σr := by
  refine enterI 2 [some (.ref (E.2.1 55)), some (.int a1), some (.int a2), none, none] (by decide +kernel) rfl (Nat.le_of_ble_eq_true rfl) (fun o K hnL hC hab hR => ?_)
  have hC : Cx E K RX12 cX12_lagAt (some .int) 7 158 := hC
  have hN : ∀ k, k < 5 → k < K.2.2.2.2.2 := fun k hk => hnL ▸ hk
  delta F_X12_lagAt at h
  refine g_aload_n (pc := 0) hC dX12_lagAt_0 rfl ?_
  refine g_iconst (pc := 1) hC ki_0 dX12_lagAt_1 ?_
  obtain ⟨σ1, eσ1, h⟩ := pf_e h
  refine fp_X12_119_55 (pc := 2) hC dX12_lagAt_2 eσ1 ?_
  refine g_aload_n (pc := 5) hC dX12_lagAt_5 rfl ?_
  obtain ⟨σ2, hc, h⟩ := cp_e h
  refine g_callVv (pc := 6) (As := []) (rest := []) hC (c_X12_laysOften l E σ1 σ2 hc) mi_X12_laysOften mv_X12_laysOften ob_55 rfl rfl lk_X12_320 rfl rfl (Nat.le_of_ble_eq_true rfl) ⟨by decide, by decide⟩ hab dX12_lagAt_6 ?_
  refine g_iload_n (pc := 9) hC dX12_lagAt_9 rfl ?_
  refine g_istore_n (lv2 := [some (.ref (E.2.1 55)), some (.int a1), some (.int a2), some (.int a1), none]) (pc := 10) hC dX12_lagAt_10 rfl (Or.inr rfl) (hN _ (by decide)) ?_
  refine g_iconst (pc := 11) hC ki_1 dX12_lagAt_11 ?_
  refine g_istore (lv2 := [some (.ref (E.2.1 55)), some (.int a1), some (.int a2), some (.int a1), some (.int 1)]) (pc := 12) hC dX12_lagAt_12 rfl (Or.inr rfl) (hN _ (by decide)) ?_
  have hL1 : ∀ (n : Nat) (w3 : Int32) (w4 : Int32) (σ5 : uS) (z1 : (uS) ⊕ (Int32 × uS)), iter n (fun z => B_X12_lagAt_4 a1 a2 z.1 z.2.1 z.2.2) (w3, w4, σ5) = some z1 → (∀ (σ6 : uS), z1 = .inl σ6 → Gd l E K 0 0 o σ6 86 [some (.ref (E.2.1 55)), none, none, none, none] []) → (∀ q, z1 = .inr q → some q = some (r, σr)) → Gd l E K 0 0 o σ5 14 [some (.ref (E.2.1 55)), some (.int a1), some (.int a2), some (.int w3), some (.int w4)] [] := by
    intro n
    induction n with
    | zero =>
      intro w3 w4 σ5 z1 hi
      exact (iter_0 hi).elim
    | succ n ih1 =>
      intro w3 w4 σ5 z1 hi1 kx1 kr1
      obtain ⟨r1, h, hi1⟩ := iter_s hi1
      replace h : B_X12_lagAt_4 a1 a2 w3 w4 σ5 = some r1 := h
      delta B_X12_lagAt_4 at h
      refine g_iload (pc := 14) hC dX12_lagAt_14 rfl ?_
      refine g_bipush (pc := 16) hC kb_50 dX12_lagAt_16 ?_
      refine g_icmp_ge (tgt := 86) (pc := 18) hC dX12_lagAt_18 (by decide) (fun c7 => ?_) (fun c7 => ?_)
      · replace h := it_t c7 h
        refine g_mask [true, false, false, false, false] rfl ?_
        exact kx1 σ5 (iter_r h hi1)
      · replace h := it_f c7 h
        refine g_iload_n (pc := 21) hC dX12_lagAt_21 rfl ?_
        refine g_if_lt (tgt := 86) (pc := 22) hC dX12_lagAt_22 (by decide) (fun c8 => ?_) (fun c8 => ?_)
        · replace h := it_t c8 h
          refine g_mask [true, false, false, false, false] rfl ?_
          exact kx1 σ5 (iter_r h hi1)
        · replace h := it_f c8 h
          refine g_aload_n (pc := 25) hC dX12_lagAt_25 rfl ?_
          refine fg_X12_92_55 (pc := 26) hC dX12_lagAt_26 ?_
          refine g_iload (pc := 29) hC dX12_lagAt_29 rfl ?_
          obtain ⟨v9, ev9, nv9, h⟩ := rd_e h
          refine g_iald (pc := 31) hC 83 (by decide) (ar_83 _ _ _) nv9 dX12_lagAt_31 ?_
          refine g_top ev9 ?_
          have hJ80 : ∀ (v20 : Int32), J_X12_lagAt_3 w4 σ5 v20 = some r1 → Gd l E K 0 0 o σ5 80 [some (.ref (E.2.1 55)), some (.int a1), some (.int a2), some (.int v20), some (.int w4)] [] := by
            intro v20 h
            delta J_X12_lagAt_3 at h
            obtain ⟨v21, ev21, h⟩ := lt_e h
            refine g_iinc (v := v21) (lv2 := [some (.ref (E.2.1 55)), some (.int a1), some (.int a2), some (.int v20), some (.int v21)]) (pc := 80) hC dX12_lagAt_80 rfl ev21 rfl (Or.inr rfl) (hN _ (by decide)) ?_
            refine g_goto (tgt := 14) (pc := 83) hC dX12_lagAt_83 (by decide) ?_
            exact ih1 v20 v21 σ5 z1 (iter_l h hi1) kx1 kr1
          refine g_if_ne (tgt := 38) (pc := 32) hC dX12_lagAt_32 (by decide) (fun c10 => ?_) (fun c10 => ?_)
          · replace h := it_f c10 h
            refine g_iload_n (pc := 38) hC dX12_lagAt_38 rfl ?_
            refine g_if_ne (tgt := 77) (pc := 39) hC dX12_lagAt_39 (by decide) (fun c11 => ?_) (fun c11 => ?_)
            · replace h := it_f c11 h
              obtain ⟨v12, ev12, h⟩ := lt_e h
              refine g_iinc (v := v12) (lv2 := [some (.ref (E.2.1 55)), some (.int a1), some (.int a2), some (.int v12), some (.int w4)]) (pc := 77) hC dX12_lagAt_77 rfl ev12 rfl (Or.inr rfl) (hN _ (by decide)) ?_
              exact hJ80 v12 h
            · replace h := it_t c11 h
              refine g_aload_n (pc := 42) hC dX12_lagAt_42 rfl ?_
              refine g_iload_n (pc := 43) hC dX12_lagAt_43 rfl ?_
              refine g_iconst (pc := 44) hC ki_0 dX12_lagAt_44 ?_
              refine g_iconst (pc := 45) hC ki_1 dX12_lagAt_45 ?_
              obtain ⟨v13, hc, h⟩ := cp_e h
              refine g_callSi (pc := 46) (As := [.int a2, .int 0, .int 1]) (rest := [.ref (E.2.1 55)]) hC (c_X12_isIn l E a2 0 1 σ5 v13 hc) mi_X12_isIn ms_X12_isIn lk_X12_133 rfl rfl (Nat.le_of_ble_eq_true rfl) ⟨by decide, by decide⟩ hab dX12_lagAt_46 ?_
              refine g_iconst (pc := 49) hC ki_1 dX12_lagAt_49 ?_
              obtain ⟨v15, σ14, hc, h⟩ := cl_e h
              refine g_callVi (pc := 50) (As := [.int v13, .int 1]) (rest := []) hC (c_X12_right l E v13 1 σ5 v15 σ14 hc) mi_X12_right mv_X12_right ob_55 rfl rfl lk_X12_148 rfl rfl (Nat.le_of_ble_eq_true rfl) ⟨by decide, by decide⟩ hab dX12_lagAt_50 ?_
              have hJ76 : ∀ (v19 : Int32), J_X12_lagAt_2 σ14 v19 = some r1 → Gd l E K 0 0 o σ14 76 [none, none, none, none, none] [.int v19] := by
                intro v19 h
                delta J_X12_lagAt_2 at h
                exact g_ret (pc := 76) hC (kr1 _ (iter_r h hi1)) hR dX12_lagAt_76
              refine g_if_eq (tgt := 75) (pc := 53) hC dX12_lagAt_53 (by decide) (fun c16 => ?_) (fun c16 => ?_)
              · replace h := it_t c16 h
                refine g_iconst (pc := 75) hC ki_0 dX12_lagAt_75 ?_
                refine g_mask [false, false, false, false, false] rfl ?_
                exact hJ76 0 h
              · replace h := it_f c16 h
                refine g_iload_n (pc := 56) hC dX12_lagAt_56 rfl ?_
                refine g_if_ne (tgt := 65) (pc := 57) hC dX12_lagAt_57 (by decide) (fun c17 => ?_) (fun c17 => ?_)
                · replace h := it_f c17 h
                  refine g_aload_n (pc := 65) hC dX12_lagAt_65 rfl ?_
                  refine fg_X12_92_55 (pc := 66) hC dX12_lagAt_66 ?_
                  refine g_iload (pc := 69) hC dX12_lagAt_69 rfl ?_
                  obtain ⟨v18, ev18, nv18, h⟩ := rd_e h
                  refine g_iald (pc := 71) hC 83 (by decide) (ar_83 _ _ _) nv18 dX12_lagAt_71 ?_
                  refine g_top ev18 ?_
                  refine g_goto (tgt := 76) (pc := 72) hC dX12_lagAt_72 (by decide) ?_
                  refine g_mask [false, false, false, false, false] rfl ?_
                  exact hJ76 v18 h
                · replace h := it_t c17 h
                  refine g_iload (pc := 60) hC dX12_lagAt_60 rfl ?_
                  refine g_goto (tgt := 76) (pc := 62) hC dX12_lagAt_62 (by decide) ?_
                  refine g_mask [false, false, false, false, false] rfl ?_
                  exact hJ76 w4 h
          · replace h := it_t c10 h
            refine g_goto (tgt := 80) (pc := 35) hC dX12_lagAt_35 (by decide) ?_
            exact hJ80 w3 h
  obtain ⟨z1, hz1, h⟩ := lp_e h
  refine hL1 FU a1 1 σ2 z1 hz1 (fun σ6 ez => ?_) (fun q ez => by rw [ez] at h; exact h)
  replace h : C_X12_lagAt_5 σ6 = some (r, σr) := by rw [ez] at h; exact h
  delta C_X12_lagAt_5 at h
  refine g_aload_n (pc := 86) hC dX12_lagAt_86 rfl ?_
  refine g_iconst (pc := 87) hC ki_0 dX12_lagAt_87 ?_
  refine g_iconst (pc := 88) hC ki_1 dX12_lagAt_88 ?_
  obtain ⟨v23, σ22, hc, h⟩ := cl_e h
  refine g_callVi (pc := 89) (As := [.int 0, .int 1]) (rest := []) hC (c_X12_right l E 0 1 σ6 v23 σ22 hc) mi_X12_right mv_X12_right ob_55 rfl rfl lk_X12_148 rfl rfl (Nat.le_of_ble_eq_true rfl) ⟨by decide, by decide⟩ hab dX12_lagAt_89 ?_
  refine g_pop (pc := 92) hC rfl dX12_lagAt_92 ?_
  refine g_iconst (pc := 93) hC ki_0 dX12_lagAt_93 ?_
  exact g_ret (pc := 94) hC h hR dX12_lagAt_94
set_option maxRecDepth 20000 in
theorem c_X12_inMiddle (l : Launch) (E : uE) (a1 : Int32) (σ : uS) (r : Int32) (h : F_X12_inMiddle a1 σ = some r) : CtI l E yX12_inMiddle cX12_inMiddle 4 (some .int) 0 0 [.ref (E.2.1 55), .int a1] σ r σ := by
  refine enterI 2 [some (.ref (E.2.1 55)), some (.int a1), none, none] (by decide +kernel) rfl (Nat.le_of_ble_eq_true rfl) (fun o K hnL hC hab hR => ?_)
  have hC : Cx E K RX12 cX12_inMiddle (some .int) 0 0 := hC
  have hN : ∀ k, k < 4 → k < K.2.2.2.2.2 := fun k hk => hnL ▸ hk
  delta F_X12_inMiddle at h
  refine g_iload_n (pc := 0) hC dX12_inMiddle_0 rfl ?_
  refine g_iconst (pc := 1) hC ki_1 dX12_inMiddle_1 ?_
  refine g_isub (pc := 2) hC dX12_inMiddle_2 ?_
  refine g_iconst (pc := 3) hC ki_2 dX12_inMiddle_3 ?_
  obtain ⟨v1, ev1, nv1, h⟩ := dv_e h
  refine g_idiv (pc := 4) hC nv1 dX12_inMiddle_4 ?_
  refine g_top ev1 ?_
  refine g_istore_n (lv2 := [some (.ref (E.2.1 55)), some (.int a1), some (.int v1), none]) (pc := 5) hC dX12_inMiddle_5 rfl (Or.inr rfl) (hN _ (by decide)) ?_
  refine g_iconst (pc := 6) hC ki_1 dX12_inMiddle_6 ?_
  refine g_istore_n (lv2 := [some (.ref (E.2.1 55)), some (.int a1), some (.int v1), some (.int 1)]) (pc := 7) hC dX12_inMiddle_7 rfl (Or.inr rfl) (hN _ (by decide)) ?_
  have hL1 : ∀ (n : Nat) (w2 : Int32) (w3 : Int32) (z1 : Int32), iter n (fun z => B_X12_inMiddle_2 σ z.1 z.2) (w2, w3) = some z1 → (∀ (v4 : Int32), z1 = v4 → Gd l E K 0 0 o σ 33 [none, none, none, some (.int v4)] []) → Gd l E K 0 0 o σ 8 [some (.ref (E.2.1 55)), none, some (.int w2), some (.int w3)] [] := by
    intro n
    induction n with
    | zero =>
      intro w2 w3 z1 hi
      exact (iter_0 hi).elim
    | succ n ih1 =>
      intro w2 w3 z1 hi1 kx1
      obtain ⟨r1, h, hi1⟩ := iter_s hi1
      replace h : B_X12_inMiddle_2 σ w2 w3 = some r1 := h
      delta B_X12_inMiddle_2 at h
      refine g_iload_n (pc := 8) hC dX12_inMiddle_8 rfl ?_
      refine g_aload_n (pc := 9) hC dX12_inMiddle_9 rfl ?_
      refine fg_X12_92_55 (pc := 10) hC dX12_inMiddle_10 ?_
      refine g_iload_n (pc := 13) hC dX12_inMiddle_13 rfl ?_
      obtain ⟨v5, ev5, nv5, h⟩ := rd_e h
      refine g_iald (pc := 14) hC 83 (by decide) (ar_83 _ _ _) nv5 dX12_inMiddle_14 ?_
      refine g_top ev5 ?_
      refine g_icmp_lt (tgt := 33) (pc := 15) hC dX12_inMiddle_15 (by decide) (fun c6 => ?_) (fun c6 => ?_)
      · replace h := it_t c6 h
        refine g_mask [false, false, false, true] rfl ?_
        exact kx1 w3 (iter_r h hi1)
      · replace h := it_f c6 h
        refine g_iload_n (pc := 18) hC dX12_inMiddle_18 rfl ?_
        refine g_aload_n (pc := 19) hC dX12_inMiddle_19 rfl ?_
        refine fg_X12_92_55 (pc := 20) hC dX12_inMiddle_20 ?_
        refine g_iload_n (pc := 23) hC dX12_inMiddle_23 rfl ?_
        obtain ⟨v7, ev7, nv7, h⟩ := rd_e h
        refine g_iald (pc := 24) hC 83 (by decide) (ar_83 _ _ _) nv7 dX12_inMiddle_24 ?_
        refine g_top ev7 ?_
        refine g_isub (pc := 25) hC dX12_inMiddle_25 ?_
        obtain ⟨v8, ev8, h⟩ := lt_e h
        refine g_top ev8 ?_
        refine g_istore_n (lv2 := [some (.ref (E.2.1 55)), none, some (.int v8), some (.int w3)]) (pc := 26) hC dX12_inMiddle_26 rfl (Or.inr rfl) (hN _ (by decide)) ?_
        obtain ⟨v9, ev9, h⟩ := lt_e h
        refine g_iinc (v := v9) (lv2 := [some (.ref (E.2.1 55)), none, some (.int v8), some (.int v9)]) (pc := 27) hC dX12_inMiddle_27 rfl ev9 rfl (Or.inr rfl) (hN _ (by decide)) ?_
        refine g_goto (tgt := 8) (pc := 30) hC dX12_inMiddle_30 (by decide) ?_
        exact ih1 v8 v9 z1 (iter_l h hi1) kx1
  obtain ⟨z1, hz1, h⟩ := lp_e h
  refine g_mask [true, false, true, true] rfl ?_
  refine hL1 FU v1 1 z1 hz1 (fun v4 ez => ?_)
  replace h : C_X12_inMiddle_3 v4 = some r := by rw [ez] at h; exact h
  delta C_X12_inMiddle_3 at h
  refine g_iload_n (pc := 33) hC dX12_inMiddle_33 rfl ?_
  exact g_retp (pc := 34) hC h hR dX12_inMiddle_34
set_option maxRecDepth 20000 in
theorem c_X12_common (l : Launch) (E : uE) (a1 : Int32) (σ : uS) (r : Int32) (σr : uS) (h : F_X12_common a1 σ = some (r, σr)) : CtI l E yX12_common cX12_common 5 (some .int) 7 158 [.ref (E.2.1 55), .int a1] σ r σr := by
  refine enterI 3 [some (.ref (E.2.1 55)), some (.int a1), none, none, none] (by decide +kernel) rfl (Nat.le_of_ble_eq_true rfl) (fun o K hnL hC hab hR => ?_)
  have hC : Cx E K RX12 cX12_common (some .int) 7 158 := hC
  have hN : ∀ k, k < 5 → k < K.2.2.2.2.2 := fun k hk => hnL ▸ hk
  delta F_X12_common at h
  refine g_aload_n (pc := 0) hC dX12_common_0 rfl ?_
  refine g_iconst (pc := 1) hC ki_0 dX12_common_1 ?_
  obtain ⟨σ1, eσ1, h⟩ := pf_e h
  refine fp_X12_119_55 (pc := 2) hC dX12_common_2 eσ1 ?_
  refine g_aload_n (pc := 5) hC dX12_common_5 rfl ?_
  refine g_iload_n (pc := 6) hC dX12_common_6 rfl ?_
  refine g_iconst (pc := 7) hC ki_0 dX12_common_7 ?_
  refine g_iconst (pc := 8) hC ki_1 dX12_common_8 ?_
  obtain ⟨v2, hc, h⟩ := cp_e h
  refine g_callSi (pc := 9) (As := [.int a1, .int 0, .int 1]) (rest := [.ref (E.2.1 55)]) hC (c_X12_isIn l E a1 0 1 σ1 v2 hc) mi_X12_isIn ms_X12_isIn lk_X12_133 rfl rfl (Nat.le_of_ble_eq_true rfl) ⟨by decide, by decide⟩ hab dX12_common_9 ?_
  refine g_iconst (pc := 12) hC ki_1 dX12_common_12 ?_
  obtain ⟨v4, σ3, hc, h⟩ := cl_e h
  refine g_callVi (pc := 13) (As := [.int v2, .int 1]) (rest := []) hC (c_X12_right l E v2 1 σ1 v4 σ3 hc) mi_X12_right mv_X12_right ob_55 rfl rfl lk_X12_148 rfl rfl (Nat.le_of_ble_eq_true rfl) ⟨by decide, by decide⟩ hab dX12_common_13 ?_
  refine g_if_ne (tgt := 21) (pc := 16) hC dX12_common_16 (by decide) (fun c5 => ?_) (fun c5 => ?_)
  · replace h := it_f c5 h
    refine g_aload_n (pc := 21) hC dX12_common_21 rfl ?_
    obtain ⟨σ6, hc, h⟩ := cp_e h
    refine g_callVv (pc := 22) (As := []) (rest := []) hC (c_X12_laysOften l E σ3 σ6 hc) mi_X12_laysOften mv_X12_laysOften ob_55 rfl rfl lk_X12_320 rfl rfl (Nat.le_of_ble_eq_true rfl) ⟨by decide, by decide⟩ hab dX12_common_22 ?_
    refine g_iconst (pc := 25) hC ki_m1 dX12_common_25 ?_
    refine g_istore_n (lv2 := [some (.ref (E.2.1 55)), some (.int a1), some (.int (-1)), none, none]) (pc := 26) hC dX12_common_26 rfl (Or.inr rfl) (hN _ (by decide)) ?_
    refine g_iconst (pc := 27) hC ki_0 dX12_common_27 ?_
    refine g_istore_n (lv2 := [some (.ref (E.2.1 55)), some (.int a1), some (.int (-1)), some (.int 0), none]) (pc := 28) hC dX12_common_28 rfl (Or.inr rfl) (hN _ (by decide)) ?_
    refine g_iconst (pc := 29) hC ki_1 dX12_common_29 ?_
    refine g_istore (lv2 := [some (.ref (E.2.1 55)), some (.int a1), some (.int (-1)), some (.int 0), some (.int 1)]) (pc := 30) hC dX12_common_30 rfl (Or.inr rfl) (hN _ (by decide)) ?_
    have hL1 : ∀ (n : Nat) (w7 : Int32) (w8 : Int32) (w9 : Int32) (z1 : Int32 × Int32), iter n (fun z => B_X12_common_4 σ6 z.1 z.2.1 z.2.2) (w7, w8, w9) = some z1 → (∀ (v10 : Int32) (v11 : Int32), z1 = (v10, v11) → Gd l E K 0 0 o σ6 89 [some (.ref (E.2.1 55)), some (.int a1), some (.int v10), some (.int v11), none] []) → Gd l E K 0 0 o σ6 32 [some (.ref (E.2.1 55)), some (.int a1), some (.int w7), some (.int w8), some (.int w9)] [] := by
      intro n
      induction n with
      | zero =>
        intro w7 w8 w9 z1 hi
        exact (iter_0 hi).elim
      | succ n ih1 =>
        intro w7 w8 w9 z1 hi1 kx1
        obtain ⟨r1, h, hi1⟩ := iter_s hi1
        replace h : B_X12_common_4 σ6 w7 w8 w9 = some r1 := h
        delta B_X12_common_4 at h
        refine g_iload (pc := 32) hC dX12_common_32 rfl ?_
        refine g_bipush (pc := 34) hC kb_50 dX12_common_34 ?_
        refine g_icmp_ge (tgt := 89) (pc := 36) hC dX12_common_36 (by decide) (fun c12 => ?_) (fun c12 => ?_)
        · replace h := it_t c12 h
          refine g_mask [true, true, true, true, false] rfl ?_
          exact kx1 w7 w8 (iter_r h hi1)
        · replace h := it_f c12 h
          refine g_iload_n (pc := 39) hC dX12_common_39 rfl ?_
          refine g_aload_n (pc := 40) hC dX12_common_40 rfl ?_
          refine fg_X12_92_55 (pc := 41) hC dX12_common_41 ?_
          refine g_iload (pc := 44) hC dX12_common_44 rfl ?_
          obtain ⟨v13, ev13, nv13, h⟩ := rd_e h
          refine g_iald (pc := 46) hC 83 (by decide) (ar_83 _ _ _) nv13 dX12_common_46 ?_
          refine g_top ev13 ?_
          refine g_iadd (pc := 47) hC dX12_common_47 ?_
          obtain ⟨v14, ev14, h⟩ := lt_e h
          refine g_top ev14 ?_
          refine g_istore_n (lv2 := [some (.ref (E.2.1 55)), some (.int a1), some (.int w7), some (.int v14), some (.int w9)]) (pc := 48) hC dX12_common_48 rfl (Or.inr rfl) (hN _ (by decide)) ?_
          refine g_aload_n (pc := 49) hC dX12_common_49 rfl ?_
          refine fg_X12_92_55 (pc := 50) hC dX12_common_50 ?_
          refine g_iload (pc := 53) hC dX12_common_53 rfl ?_
          obtain ⟨v15, ev15, nv15, h⟩ := rd_e h
          refine g_iald (pc := 55) hC 83 (by decide) (ar_83 _ _ _) nv15 dX12_common_55 ?_
          refine g_top ev15 ?_
          have hJ83 : ∀ (v21 : Int32), J_X12_common_3 v14 w9 v21 = some r1 → Gd l E K 0 0 o σ6 83 [some (.ref (E.2.1 55)), some (.int a1), some (.int v21), some (.int v14), some (.int w9)] [] := by
            intro v21 h
            delta J_X12_common_3 at h
            obtain ⟨v22, ev22, h⟩ := lt_e h
            refine g_iinc (v := v22) (lv2 := [some (.ref (E.2.1 55)), some (.int a1), some (.int v21), some (.int v14), some (.int v22)]) (pc := 83) hC dX12_common_83 rfl ev22 rfl (Or.inr rfl) (hN _ (by decide)) ?_
            refine g_goto (tgt := 32) (pc := 86) hC dX12_common_86 (by decide) ?_
            exact ih1 v21 v14 v22 z1 (iter_l h hi1) kx1
          refine g_if_le (tgt := 83) (pc := 56) hC dX12_common_56 (by decide) (fun c16 => ?_) (fun c16 => ?_)
          · replace h := it_t c16 h
            exact hJ83 w7 h
          · replace h := it_f c16 h
            refine g_iload_n (pc := 59) hC dX12_common_59 rfl ?_
            refine g_iconst (pc := 60) hC ki_m1 dX12_common_60 ?_
            have hJ80 : J_X12_common_2 v14 w9 = some r1 → Gd l E K 0 0 o σ6 80 [some (.ref (E.2.1 55)), some (.int a1), none, some (.int v14), some (.int w9)] [] := by
              intro h
              delta J_X12_common_2 at h
              refine g_iload (pc := 80) hC dX12_common_80 rfl ?_
              refine g_istore_n (lv2 := [some (.ref (E.2.1 55)), some (.int a1), some (.int w9), some (.int v14), some (.int w9)]) (pc := 82) hC dX12_common_82 rfl (Or.inr rfl) (hN _ (by decide)) ?_
              exact hJ83 w9 h
            refine g_icmp_eq (tgt := 80) (pc := 61) hC dX12_common_61 (by decide) (fun c17 => ?_) (fun c17 => ?_)
            · replace h := it_t c17 h
              refine g_mask [true, true, false, true, true] rfl ?_
              exact hJ80 h
            · replace h := it_f c17 h
              refine g_aload_n (pc := 64) hC dX12_common_64 rfl ?_
              refine fg_X12_92_55 (pc := 65) hC dX12_common_65 ?_
              refine g_iload (pc := 68) hC dX12_common_68 rfl ?_
              obtain ⟨v18, ev18, nv18, h⟩ := rd_e h
              refine g_iald (pc := 70) hC 83 (by decide) (ar_83 _ _ _) nv18 dX12_common_70 ?_
              refine g_top ev18 ?_
              refine g_aload_n (pc := 71) hC dX12_common_71 rfl ?_
              refine fg_X12_92_55 (pc := 72) hC dX12_common_72 ?_
              refine g_iload_n (pc := 75) hC dX12_common_75 rfl ?_
              obtain ⟨v19, ev19, nv19, h⟩ := rd_e h
              refine g_iald (pc := 76) hC 83 (by decide) (ar_83 _ _ _) nv19 dX12_common_76 ?_
              refine g_top ev19 ?_
              refine g_icmp_le (tgt := 83) (pc := 77) hC dX12_common_77 (by decide) (fun c20 => ?_) (fun c20 => ?_)
              · replace h := it_t c20 h
                exact hJ83 w7 h
              · replace h := it_f c20 h
                refine g_mask [true, true, false, true, true] rfl ?_
                exact hJ80 h
    obtain ⟨z1, hz1, h⟩ := lp_e h
    refine hL1 FU (-1) 0 1 z1 hz1 (fun v10 v11 ez => ?_)
    replace h : C_X12_common_7 a1 σ6 v10 v11 = some (r, σr) := by rw [ez] at h; exact h
    delta C_X12_common_7 at h
    refine g_iload_n (pc := 89) hC dX12_common_89 rfl ?_
    have hJ106 : ∀ (v26 : Int32), J_X12_common_6 σ6 v26 = some (r, σr) → Gd l E K 0 0 o σ6 106 [none, none, none, none, none] [.int v26] := by
      intro v26 h
      delta J_X12_common_6 at h
      exact g_ret (pc := 106) hC h hR dX12_common_106
    have hJ97 : J_X12_common_5 v10 σ6 = some (r, σr) → Gd l E K 0 0 o σ6 97 [none, none, some (.int v10), none, none] [] := by
      intro h
      delta J_X12_common_5 at h
      refine g_iload_n (pc := 97) hC dX12_common_97 rfl ?_
      refine g_goto (tgt := 106) (pc := 98) hC dX12_common_98 (by decide) ?_
      refine g_mask [false, false, false, false, false] rfl ?_
      exact hJ106 v10 h
    refine g_if_eq (tgt := 97) (pc := 90) hC dX12_common_90 (by decide) (fun c23 => ?_) (fun c23 => ?_)
    · replace h := it_t c23 h
      refine g_mask [false, false, true, false, false] rfl ?_
      exact hJ97 h
    · replace h := it_f c23 h
      refine g_iload_n (pc := 93) hC dX12_common_93 rfl ?_
      refine g_if_ne (tgt := 101) (pc := 94) hC dX12_common_94 (by decide) (fun c24 => ?_) (fun c24 => ?_)
      · replace h := it_f c24 h
        refine g_aload_n (pc := 101) hC dX12_common_101 rfl ?_
        refine g_iload_n (pc := 102) hC dX12_common_102 rfl ?_
        obtain ⟨v25, hc, h⟩ := cp_e h
        refine g_callVi (pc := 103) (As := [.int v11]) (rest := []) hC (c_X12_inMiddle l E v11 σ6 v25 hc) mi_X12_inMiddle mv_X12_inMiddle ob_55 rfl rfl lk_X12_323 rfl rfl (Nat.le_of_ble_eq_true rfl) ⟨by decide, by decide⟩ hab dX12_common_103 ?_
        refine g_mask [false, false, false, false, false] rfl ?_
        exact hJ106 v25 h
      · replace h := it_t c24 h
        refine g_mask [false, false, true, false, false] rfl ?_
        exact hJ97 h
  · replace h := it_t c5 h
    refine g_iconst (pc := 19) hC ki_0 dX12_common_19 ?_
    exact g_ret (pc := 20) hC h hR dX12_common_20
set_option maxRecDepth 20000 in
theorem c_X12_tune (l : Launch) (E : uE) (a1 : Int32) (σ : uS) (r : Int32) (σr : uS) (h : F_X12_tune a1 σ = some (r, σr)) : CtI l E yX12_tune cX12_tune 2 (some .int) 1 22 [.ref (E.2.1 55), .int a1] σ r σr := by
  refine enterI 0 [some (.ref (E.2.1 55)), some (.int a1)] (by decide +kernel) rfl (Nat.le_of_ble_eq_true rfl) (fun o K hnL hC hab hR => ?_)
  have hC : Cx E K RX12 cX12_tune (some .int) 1 22 := hC
  have hN : ∀ k, k < 2 → k < K.2.2.2.2.2 := fun k hk => hnL ▸ hk
  delta F_X12_tune at h
  refine g_aload_n (pc := 0) hC dX12_tune_0 rfl ?_
  refine g_iconst (pc := 1) hC ki_0 dX12_tune_1 ?_
  obtain ⟨σ1, eσ1, h⟩ := pf_e h
  refine fp_X12_119_55 (pc := 2) hC dX12_tune_2 eσ1 ?_
  refine g_iload_n (pc := 5) hC dX12_tune_5 rfl ?_
  refine g_iconst (pc := 6) hC ki_1 dX12_tune_6 ?_
  refine g_bipush (pc := 7) hC kb_48 dX12_tune_7 ?_
  obtain ⟨v2, hc, h⟩ := cp_e h
  refine g_callSi (pc := 9) (As := [.int a1, .int 1, .int 48]) (rest := []) hC (c_X12_isIn l E a1 1 48 σ1 v2 hc) mi_X12_isIn ms_X12_isIn lk_X12_133 rfl rfl (Nat.le_of_ble_eq_true rfl) ⟨by decide, by decide⟩ hab dX12_tune_9 ?_
  have hJ24 : J_X12_tune_1 σ1 = some (r, σr) → Gd l E K 0 0 o σ1 24 [none, none] [] := by
    intro h
    delta J_X12_tune_1 at h
    refine g_sipush (pc := 24) hC ks_m1000 dX12_tune_24 ?_
    exact g_ret (pc := 27) hC h hR dX12_tune_27
  refine g_if_eq (tgt := 24) (pc := 12) hC dX12_tune_12 (by decide) (fun c3 => ?_) (fun c3 => ?_)
  · replace h := it_t c3 h
    refine g_mask [false, false] rfl ?_
    exact hJ24 h
  · replace h := it_f c3 h
    refine g_aload_n (pc := 15) hC dX12_tune_15 rfl ?_
    refine fg_X12_160_55 (pc := 16) hC dX12_tune_16 ?_
    refine g_bipush (pc := 19) hC kb_12 dX12_tune_19 ?_
    refine g_icmp_ne (tgt := 28) (pc := 21) hC dX12_tune_21 (by decide) (fun c4 => ?_) (fun c4 => ?_)
    · replace h := it_f c4 h
      refine g_aload_n (pc := 28) hC dX12_tune_28 rfl ?_
      refine fg_X12_25_55 (pc := 29) hC dX12_tune_29 ?_
      refine g_aload_n (pc := 32) hC dX12_tune_32 rfl ?_
      refine fg_X12_160_55 (pc := 33) hC dX12_tune_33 ?_
      refine g_iload_n (pc := 36) hC dX12_tune_36 rfl ?_
      obtain ⟨σ5, eσ5, nσ5, h⟩ := wr_e h
      refine g_iast (pc := 37) hC 61 (by decide) (ar_61 _ _) nσ5 dX12_tune_37 eσ5 ?_
      refine g_aload_n (pc := 38) hC dX12_tune_38 rfl ?_
      refine g_dup (pc := 39) hC rfl dX12_tune_39 ?_
      refine fg_X12_160_55 (pc := 40) hC dX12_tune_40 ?_
      refine g_iconst (pc := 43) hC ki_1 dX12_tune_43 ?_
      refine g_iadd (pc := 44) hC dX12_tune_44 ?_
      obtain ⟨σ6, eσ6, h⟩ := pf_e h
      refine fp_X12_160_55 (pc := 45) hC dX12_tune_45 eσ6 ?_
      refine g_aload_n (pc := 48) hC dX12_tune_48 rfl ?_
      refine fg_X12_160_55 (pc := 49) hC dX12_tune_49 ?_
      exact g_ret (pc := 52) hC h hR dX12_tune_52
    · replace h := it_t c4 h
      refine g_mask [false, false] rfl ?_
      exact hJ24 h
set_option maxRecDepth 20000 in
theorem c_X12_hush (l : Launch) (E : uE) (σ : uS) (r : Int32) (σr : uS) (h : F_X12_hush σ = some (r, σr)) : CtI l E yX12_hush cX12_hush 2 (some .int) 0 0 [.ref (E.2.1 55)] σ r σr := by
  refine enterI 1 [some (.ref (E.2.1 55)), none] (by decide +kernel) rfl (Nat.le_of_ble_eq_true rfl) (fun o K hnL hC hab hR => ?_)
  have hC : Cx E K RX12 cX12_hush (some .int) 0 0 := hC
  have hN : ∀ k, k < 2 → k < K.2.2.2.2.2 := fun k hk => hnL ▸ hk
  delta F_X12_hush at h
  refine g_aload_n (pc := 0) hC dX12_hush_0 rfl ?_
  refine g_iconst (pc := 1) hC ki_0 dX12_hush_1 ?_
  obtain ⟨σ1, eσ1, h⟩ := pf_e h
  refine fp_X12_119_55 (pc := 2) hC dX12_hush_2 eσ1 ?_
  refine g_aload_n (pc := 5) hC dX12_hush_5 rfl ?_
  refine fg_X12_160_55 (pc := 6) hC dX12_hush_6 ?_
  obtain ⟨v2, ev2, h⟩ := lt_e h
  refine g_top ev2 ?_
  refine g_istore_n (lv2 := [some (.ref (E.2.1 55)), some (.int v2)]) (pc := 9) hC dX12_hush_9 rfl (Or.inr rfl) (hN _ (by decide)) ?_
  refine g_aload_n (pc := 10) hC dX12_hush_10 rfl ?_
  refine g_iconst (pc := 11) hC ki_0 dX12_hush_11 ?_
  obtain ⟨σ3, eσ3, h⟩ := pf_e h
  refine fp_X12_160_55 (pc := 12) hC dX12_hush_12 eσ3 ?_
  refine g_iload_n (pc := 15) hC dX12_hush_15 rfl ?_
  exact g_ret (pc := 16) hC h hR dX12_hush_16
set_option maxRecDepth 20000 in
theorem c_X12_matchAt (l : Launch) (E : uE) (a1 : Int32) (a2 : Int32) (σ : uS) (r : Int32) (h : F_X12_matchAt a1 a2 σ = some r) : CtI l E yX12_matchAt cX12_matchAt 2 (some .int) 0 0 [.int a1, .int a2] σ r σ := by
  refine enterI 0 [some (.int a1), some (.int a2)] (by decide +kernel) rfl (Nat.le_of_ble_eq_true rfl) (fun o K hnL hC hab hR => ?_)
  have hC : Cx E K RX12 cX12_matchAt (some .int) 0 0 := hC
  have hN : ∀ k, k < 2 → k < K.2.2.2.2.2 := fun k hk => hnL ▸ hk
  delta F_X12_matchAt at h
  refine g_bipush (pc := 0) hC kb_111 dX12_matchAt_0 ?_
  refine g_iload_n (pc := 2) hC dX12_matchAt_2 rfl ?_
  refine g_imul (pc := 3) hC dX12_matchAt_3 ?_
  refine g_iload_n (pc := 4) hC dX12_matchAt_4 rfl ?_
  refine g_iadd (pc := 5) hC dX12_matchAt_5 ?_
  exact g_retp (pc := 6) hC h hR dX12_matchAt_6
set_option maxRecDepth 20000 in
theorem c_X12_pairCost (l : Launch) (E : uE) (a1 : Int32) (a2 : Int32) (σ : uS) (r : Int32) (h : F_X12_pairCost a1 a2 σ = some r) : CtI l E yX12_pairCost cX12_pairCost 3 (some .int) 1 21 [.ref (E.2.1 55), .int a1, .int a2] σ r σ := by
  refine enterI 0 [some (.ref (E.2.1 55)), some (.int a1), some (.int a2)] (by decide +kernel) rfl (Nat.le_of_ble_eq_true rfl) (fun o K hnL hC hab hR => ?_)
  have hC : Cx E K RX12 cX12_pairCost (some .int) 1 21 := hC
  have hN : ∀ k, k < 3 → k < K.2.2.2.2.2 := fun k hk => hnL ▸ hk
  delta F_X12_pairCost at h
  refine g_bipush (pc := 0) hC kb_10 dX12_pairCost_0 ?_
  refine g_aload_n (pc := 2) hC dX12_pairCost_2 rfl ?_
  refine fg_X12_25_55 (pc := 3) hC dX12_pairCost_3 ?_
  refine g_iload_n (pc := 6) hC dX12_pairCost_6 rfl ?_
  obtain ⟨v1, ev1, nv1, h⟩ := rd_e h
  refine g_iald (pc := 7) hC 61 (by decide) (ar_61 _ _ _) nv1 dX12_pairCost_7 ?_
  refine g_top ev1 ?_
  refine g_aload_n (pc := 8) hC dX12_pairCost_8 rfl ?_
  refine fg_X12_86_55 (pc := 9) hC dX12_pairCost_9 ?_
  refine g_iload_n (pc := 12) hC dX12_pairCost_12 rfl ?_
  obtain ⟨v2, ev2, nv2, h⟩ := rd_e h
  refine g_iald (pc := 13) hC 81 (by decide) (ar_81 _ _ _) nv2 dX12_pairCost_13 ?_
  refine g_top ev2 ?_
  obtain ⟨v3, hc, h⟩ := cp_e h
  refine g_callSi (pc := 14) (As := [.int v1, .int v2]) (rest := [.int 10]) hC (c_X12_apart l E v1 v2 σ v3 hc) mi_X12_apart ms_X12_apart lk_X12_163 rfl rfl (Nat.le_of_ble_eq_true rfl) ⟨by decide, by decide⟩ hab dX12_pairCost_14 ?_
  refine g_imul (pc := 17) hC dX12_pairCost_17 ?_
  exact g_retp (pc := 18) hC h hR dX12_pairCost_18
set_option maxRecDepth 20000 in
theorem c_X12_goesMatch (l : Launch) (E : uE) (σ : uS) (σr : uS) (h : F_X12_goesMatch σ = some σr) : CtV l E yX12_goesMatch cX12_goesMatch 5 2 43 [.ref (E.2.1 55)] σ σr := by
  refine enterV 4 [some (.ref (E.2.1 55)), none, none, none, none] (by decide +kernel) rfl (Nat.le_of_ble_eq_true rfl) (fun o K hnL hC hab hR => ?_)
  have hC : Cx E K RX12 cX12_goesMatch none 2 43 := hC
  have hN : ∀ k, k < 5 → k < K.2.2.2.2.2 := fun k hk => hnL ▸ hk
  delta F_X12_goesMatch at h
  refine g_iconst (pc := 0) hC ki_0 dX12_goesMatch_0 ?_
  refine g_istore_n (lv2 := [some (.ref (E.2.1 55)), some (.int 0), none, none, none]) (pc := 1) hC dX12_goesMatch_1 rfl (Or.inr rfl) (hN _ (by decide)) ?_
  refine g_aload_n (pc := 2) hC dX12_goesMatch_2 rfl ?_
  refine g_iconst (pc := 3) hC ki_0 dX12_goesMatch_3 ?_
  obtain ⟨σ1, eσ1, h⟩ := pf_e h
  refine fp_X12_338_55 (pc := 4) hC dX12_goesMatch_4 eσ1 ?_
  refine g_iconst (pc := 7) hC ki_0 dX12_goesMatch_7 ?_
  refine g_istore_n (lv2 := [some (.ref (E.2.1 55)), some (.int 0), some (.int 0), none, none]) (pc := 8) hC dX12_goesMatch_8 rfl (Or.inr rfl) (hN _ (by decide)) ?_
  have hL1 : ∀ (n : Nat) (w2 : Int32) (w3 : Int32) (σ4 : uS) (z1 : uS), iter n (fun z => B_X12_goesMatch_6 z.1 z.2.1 z.2.2) (w2, w3, σ4) = some z1 → (∀ (σ5 : uS), z1 = σ5 → Gd l E K 0 0 o σ5 137 [none, none, none, none, none] []) → Gd l E K 0 0 o σ4 9 [some (.ref (E.2.1 55)), some (.int w2), some (.int w3), none, none] [] := by
    intro n
    induction n with
    | zero =>
      intro w2 w3 σ4 z1 hi
      exact (iter_0 hi).elim
    | succ n ih1 =>
      intro w2 w3 σ4 z1 hi1 kx1
      obtain ⟨r1, h, hi1⟩ := iter_s hi1
      replace h : B_X12_goesMatch_6 w2 w3 σ4 = some r1 := h
      delta B_X12_goesMatch_6 at h
      refine g_iload_n (pc := 9) hC dX12_goesMatch_9 rfl ?_
      refine g_aload_n (pc := 10) hC dX12_goesMatch_10 rfl ?_
      refine fg_X12_160_55 (pc := 11) hC dX12_goesMatch_11 ?_
      refine g_icmp_ge (tgt := 137) (pc := 14) hC dX12_goesMatch_14 (by decide) (fun c6 => ?_) (fun c6 => ?_)
      · replace h := it_t c6 h
        refine g_mask [false, false, false, false, false] rfl ?_
        exact kx1 σ4 (iter_r h hi1)
      · replace h := it_f c6 h
        refine g_aload_n (pc := 17) hC dX12_goesMatch_17 rfl ?_
        refine fg_X12_95_55 (pc := 18) hC dX12_goesMatch_18 ?_
        refine g_iload_n (pc := 21) hC dX12_goesMatch_21 rfl ?_
        refine g_iload_n (pc := 22) hC dX12_goesMatch_22 rfl ?_
        obtain ⟨v7, hc, h⟩ := cp_e h
        refine g_callSi (pc := 23) (As := [.int w3, .int w2]) (rest := [.ref (E.2.1 84)]) hC (c_X12_matchAt l E w3 w2 σ4 v7 hc) mi_X12_matchAt ms_X12_matchAt lk_X12_326 rfl rfl (Nat.le_of_ble_eq_true rfl) ⟨by decide, by decide⟩ hab dX12_goesMatch_23 ?_
        obtain ⟨v8, ev8, nv8, h⟩ := rd_e h
        refine g_iald (pc := 26) hC 84 (by decide) (ar_84 _ _ _) nv8 dX12_goesMatch_26 ?_
        refine g_top ev8 ?_
        refine g_istore_n (lv2 := [some (.ref (E.2.1 55)), some (.int w2), some (.int w3), some (.int v8), none]) (pc := 27) hC dX12_goesMatch_27 rfl (Or.inr rfl) (hN _ (by decide)) ?_
        refine g_iload_n (pc := 28) hC dX12_goesMatch_28 rfl ?_
        refine g_istore (lv2 := [some (.ref (E.2.1 55)), some (.int w2), some (.int w3), some (.int v8), some (.int w2)]) (pc := 29) hC dX12_goesMatch_29 rfl (Or.inr rfl) (hN _ (by decide)) ?_
        have hL2 : ∀ (n : Nat) (w9 : Int32) (z2 : Int32), iter n (fun z => B_X12_goesMatch_3 v8 w2 w3 σ4 z) w9 = some z2 → (∀ (v10 : Int32), z2 = v10 → Gd l E K 0 0 o σ4 86 [some (.ref (E.2.1 55)), some (.int w2), some (.int w3), none, some (.int v10)] []) → Gd l E K 0 0 o σ4 31 [some (.ref (E.2.1 55)), some (.int w2), some (.int w3), some (.int v8), some (.int w9)] [] := by
          intro n
          induction n with
          | zero =>
            intro w9 z2 hi
            exact (iter_0 hi).elim
          | succ n ih2 =>
            intro w9 z2 hi2 kx2
            obtain ⟨r2, h, hi2⟩ := iter_s hi2
            replace h : B_X12_goesMatch_3 v8 w2 w3 σ4 w9 = some r2 := h
            delta B_X12_goesMatch_3 at h
            refine g_iload (pc := 31) hC dX12_goesMatch_31 rfl ?_
            refine g_aload_n (pc := 33) hC dX12_goesMatch_33 rfl ?_
            refine fg_X12_308_55 (pc := 34) hC dX12_goesMatch_34 ?_
            refine g_icmp_ge (tgt := 86) (pc := 37) hC dX12_goesMatch_37 (by decide) (fun c11 => ?_) (fun c11 => ?_)
            · replace h := it_t c11 h
              refine g_mask [true, true, true, false, true] rfl ?_
              exact kx2 w9 (iter_r h hi2)
            · replace h := it_f c11 h
              refine g_iload (pc := 40) hC dX12_goesMatch_40 rfl ?_
              refine g_iload_n (pc := 42) hC dX12_goesMatch_42 rfl ?_
              refine g_isub (pc := 43) hC dX12_goesMatch_43 ?_
              refine g_aload_n (pc := 44) hC dX12_goesMatch_44 rfl ?_
              refine fg_X12_7_55 (pc := 45) hC dX12_goesMatch_45 ?_
              refine g_bipush (pc := 48) hC kb_15 dX12_goesMatch_48 ?_
              obtain ⟨v12, ev12, nv12, h⟩ := rd_e h
              refine g_iald (pc := 50) hC 56 (by decide) (ar_56 _ _ _) nv12 dX12_goesMatch_50 ?_
              refine g_top ev12 ?_
              refine g_imul (pc := 51) hC dX12_goesMatch_51 ?_
              refine g_aload_n (pc := 52) hC dX12_goesMatch_52 rfl ?_
              refine g_iload_n (pc := 53) hC dX12_goesMatch_53 rfl ?_
              refine g_iload (pc := 54) hC dX12_goesMatch_54 rfl ?_
              obtain ⟨v13, hc, h⟩ := cp_e h
              refine g_callVi (pc := 56) (As := [.int w3, .int w9]) (rest := [.int ((w9 - w2) * v12)]) hC (c_X12_pairCost l E w3 w9 σ4 v13 hc) mi_X12_pairCost mv_X12_pairCost ob_55 rfl rfl lk_X12_332 rfl rfl (Nat.le_of_ble_eq_true rfl) ⟨by decide, by decide⟩ hab dX12_goesMatch_56 ?_
              refine g_iadd (pc := 59) hC dX12_goesMatch_59 ?_
              refine g_aload_n (pc := 60) hC dX12_goesMatch_60 rfl ?_
              refine fg_X12_95_55 (pc := 61) hC dX12_goesMatch_61 ?_
              refine g_iload_n (pc := 64) hC dX12_goesMatch_64 rfl ?_
              refine g_iconst (pc := 65) hC ki_1 dX12_goesMatch_65 ?_
              refine g_iadd (pc := 66) hC dX12_goesMatch_66 ?_
              refine g_iload (pc := 67) hC dX12_goesMatch_67 rfl ?_
              refine g_iconst (pc := 69) hC ki_1 dX12_goesMatch_69 ?_
              refine g_iadd (pc := 70) hC dX12_goesMatch_70 ?_
              obtain ⟨v14, hc, h⟩ := cp_e h
              refine g_callSi (pc := 71) (As := [.int (w3 + 1), .int (w9 + 1)]) (rest := [.ref (E.2.1 84), .int (((w9 - w2) * v12) + v13)]) hC (c_X12_matchAt l E (w3 + 1) (w9 + 1) σ4 v14 hc) mi_X12_matchAt ms_X12_matchAt lk_X12_326 rfl rfl (Nat.le_of_ble_eq_true rfl) ⟨by decide, by decide⟩ hab dX12_goesMatch_71 ?_
              obtain ⟨v15, ev15, nv15, h⟩ := rd_e h
              refine g_iald (pc := 74) hC 84 (by decide) (ar_84 _ _ _) nv15 dX12_goesMatch_74 ?_
              refine g_top ev15 ?_
              refine g_iadd (pc := 75) hC dX12_goesMatch_75 ?_
              refine g_iload_n (pc := 76) hC dX12_goesMatch_76 rfl ?_
              refine g_icmp_eq (tgt := 86) (pc := 77) hC dX12_goesMatch_77 (by decide) (fun c16 => ?_) (fun c16 => ?_)
              · replace h := it_t c16 h
                refine g_mask [true, true, true, false, true] rfl ?_
                exact kx2 w9 (iter_r h hi2)
              · replace h := it_f c16 h
                obtain ⟨v17, ev17, h⟩ := lt_e h
                refine g_iinc (v := v17) (lv2 := [some (.ref (E.2.1 55)), some (.int w2), some (.int w3), some (.int v8), some (.int v17)]) (pc := 80) hC dX12_goesMatch_80 rfl ev17 rfl (Or.inr rfl) (hN _ (by decide)) ?_
                refine g_goto (tgt := 31) (pc := 83) hC dX12_goesMatch_83 (by decide) ?_
                exact ih2 v17 z2 (iter_l h hi2) kx2
        obtain ⟨z2, hz2, h⟩ := lp_e h
        refine hL2 FU w2 z2 hz2 (fun v10 ez => ?_)
        replace h : C_X12_goesMatch_5 w2 w3 σ4 v10 = some r1 := by rw [ez] at h; exact h
        delta C_X12_goesMatch_5 at h
        refine g_aload_n (pc := 86) hC dX12_goesMatch_86 rfl ?_
        refine fg_X12_98_55 (pc := 87) hC dX12_goesMatch_87 ?_
        refine g_iload_n (pc := 90) hC dX12_goesMatch_90 rfl ?_
        refine g_iload (pc := 91) hC dX12_goesMatch_91 rfl ?_
        refine g_aload_n (pc := 93) hC dX12_goesMatch_93 rfl ?_
        refine fg_X12_308_55 (pc := 94) hC dX12_goesMatch_94 ?_
        obtain ⟨v19, ev19, h⟩ := lt_e h
        have hJ106 : Gd l E K 0 0 o σ4 106 [some (.ref (E.2.1 55)), some (.int w2), some (.int w3), none, some (.int v10)] [.int v19, .int w3, .ref (E.2.1 85)] := by
          obtain ⟨σ20, eσ20, nσ20, h⟩ := wr_e h
          refine g_iast (pc := 106) hC 85 (by decide) (ar_85 _ _) nσ20 dX12_goesMatch_106 eσ20 ?_
          refine g_iload (pc := 107) hC dX12_goesMatch_107 rfl ?_
          refine g_aload_n (pc := 109) hC dX12_goesMatch_109 rfl ?_
          refine fg_X12_308_55 (pc := 110) hC dX12_goesMatch_110 ?_
          have hJ131 : ∀ (v24 : Int32) (σ25 : uS), J_X12_goesMatch_4 w3 v24 σ25 = some r1 → Gd l E K 0 0 o σ25 131 [some (.ref (E.2.1 55)), some (.int v24), some (.int w3), none, none] [] := by
            intro v24 σ25 h
            delta J_X12_goesMatch_4 at h
            obtain ⟨v26, ev26, h⟩ := lt_e h
            refine g_iinc (v := v26) (lv2 := [some (.ref (E.2.1 55)), some (.int v24), some (.int v26), none, none]) (pc := 131) hC dX12_goesMatch_131 rfl ev26 rfl (Or.inr rfl) (hN _ (by decide)) ?_
            refine g_goto (tgt := 9) (pc := 134) hC dX12_goesMatch_134 (by decide) ?_
            exact ih1 v24 v26 σ25 z1 (iter_l h hi1) kx1
          refine g_icmp_ge (tgt := 131) (pc := 113) hC dX12_goesMatch_113 (by decide) (fun c21 => ?_) (fun c21 => ?_)
          · replace h := it_t c21 h
            refine g_mask [true, true, true, false, false] rfl ?_
            exact hJ131 w2 σ20 h
          · replace h := it_f c21 h
            refine g_aload_n (pc := 116) hC dX12_goesMatch_116 rfl ?_
            refine g_dup (pc := 117) hC rfl dX12_goesMatch_117 ?_
            refine fg_X12_338_55 (pc := 118) hC dX12_goesMatch_118 ?_
            refine g_iconst (pc := 121) hC ki_1 dX12_goesMatch_121 ?_
            refine g_iadd (pc := 122) hC dX12_goesMatch_122 ?_
            obtain ⟨σ22, eσ22, h⟩ := pf_e h
            refine fp_X12_338_55 (pc := 123) hC dX12_goesMatch_123 eσ22 ?_
            refine g_iload (pc := 126) hC dX12_goesMatch_126 rfl ?_
            refine g_iconst (pc := 128) hC ki_1 dX12_goesMatch_128 ?_
            refine g_iadd (pc := 129) hC dX12_goesMatch_129 ?_
            obtain ⟨v23, ev23, h⟩ := lt_e h
            refine g_top ev23 ?_
            refine g_istore_n (lv2 := [some (.ref (E.2.1 55)), some (.int v23), some (.int w3), none, some (.int v10)]) (pc := 130) hC dX12_goesMatch_130 rfl (Or.inr rfl) (hN _ (by decide)) ?_
            refine g_mask [true, true, true, false, false] rfl ?_
            exact hJ131 v23 σ22 h
        refine g_icmp_ge (tgt := 105) (pc := 97) hC dX12_goesMatch_97 (by decide) (fun c18 => ?_) (fun c18 => ?_)
        · refine g_iconst (pc := 105) hC ki_m1 dX12_goesMatch_105 ?_
          exact g_top (iv_t c18 ev19) hJ106
        · refine g_iload (pc := 100) hC dX12_goesMatch_100 rfl ?_
          refine g_goto (tgt := 106) (pc := 102) hC dX12_goesMatch_102 (by decide) ?_
          exact g_top (iv_f c18 ev19) hJ106
  obtain ⟨z1, hz1, h⟩ := lp_e h
  refine hL1 FU 0 0 σ1 z1 hz1 (fun σ5 ez => ?_)
  replace h : C_X12_goesMatch_7 σ5 = some σr := by rw [ez] at h; exact h
  delta C_X12_goesMatch_7 at h
  exact g_retv (pc := 137) hC h hR dX12_goesMatch_137

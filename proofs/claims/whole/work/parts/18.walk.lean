set_option maxRecDepth 20000 in
theorem c_X10_findLeast (l : Launch) (E : uE) (σ : uS) (σr : uS) (h : F_X10_findLeast σ = some σr) : CtV l E yX10_findLeast cX10_findLeast 6 3 64 [.ref (E.2.1 51)] σ σr := by
  refine enterV 5 [some (.ref (E.2.1 51)), none, none, none, none, none] (by decide +kernel) rfl (Nat.le_of_ble_eq_true rfl) (fun o K hnL hC hab hR => ?_)
  have hC : Cx E K RX10 cX10_findLeast none 3 64 := hC
  have hN : ∀ k, k < 6 → k < K.2.2.2.2.2 := fun k hk => hnL ▸ hk
  delta F_X10_findLeast at h
  refine g_aload_n (pc := 0) hC dX10_findLeast_0 rfl ?_
  refine fg_X10_25_51 (pc := 1) hC dX10_findLeast_1 ?_
  refine g_bipush (pc := 4) hC kb_15 dX10_findLeast_4 ?_
  obtain ⟨v1, hc, h⟩ := cp_e h
  refine g_callVi (pc := 6) (As := [.int 15]) (rest := []) hC (c_X0_of l E 15 σ v1 hc) mi_X0_of mv_X0_of ob_4 rfl rfl lk_X10_46 rfl rfl (Nat.le_of_ble_eq_true rfl) ⟨by decide, by decide⟩ hab dX10_findLeast_6 ?_
  refine g_istore_n (lv2 := [some (.ref (E.2.1 51)), some (.int v1), none, none, none, none]) (pc := 9) hC dX10_findLeast_9 rfl (Or.inr rfl) (hN _ (by decide)) ?_
  refine g_bipush (pc := 10) hC kb_100 dX10_findLeast_10 ?_
  refine g_aload_n (pc := 12) hC dX10_findLeast_12 rfl ?_
  refine fg_X10_21_51 (pc := 13) hC dX10_findLeast_13 ?_
  obtain ⟨v2, hc, h⟩ := cp_e h
  refine g_callVi (pc := 16) (As := []) (rest := [.int 100]) hC (c_X4_size l E σ v2 hc) mi_X4_size mv_X4_size ob_38 rfl rfl lk_X10_50 rfl rfl (Nat.le_of_ble_eq_true rfl) ⟨by decide, by decide⟩ hab dX10_findLeast_16 ?_
  obtain ⟨v3, hc, h⟩ := cp_e h
  refine g_callSi (pc := 19) (As := [.int 100, .int v2]) (rest := []) hC (c_J9_min_7cf53 l E 100 v2 σ v3 hc) mi_J9_min_7cf53 ms_J9_min_7cf53 lk_X10_55 rfl rfl (Nat.le_of_ble_eq_true rfl) ⟨by decide, by decide⟩ hab dX10_findLeast_19 ?_
  refine g_istore_n (lv2 := [some (.ref (E.2.1 51)), some (.int v1), some (.int v3), none, none, none]) (pc := 22) hC dX10_findLeast_22 rfl (Or.inr rfl) (hN _ (by decide)) ?_
  refine g_aload_n (pc := 23) hC dX10_findLeast_23 rfl ?_
  refine fg_X10_29_51 (pc := 24) hC dX10_findLeast_24 ?_
  obtain ⟨v4, ev4, h⟩ := lt_e h
  refine g_top ev4 ?_
  refine g_istore_n (lv2 := [some (.ref (E.2.1 51)), some (.int v1), some (.int v3), some (.int v4), none, none]) (pc := 27) hC dX10_findLeast_27 rfl (Or.inr rfl) (hN _ (by decide)) ?_
  have hL1 : ∀ (n : Nat) (w5 : Int32) (σ6 : uS) (z1 : uS), iter n (fun z => B_X10_findLeast_8 v1 v3 z.1 z.2) (w5, σ6) = some z1 → (∀ (σ7 : uS), z1 = σ7 → Gd l E K 0 0 o σ7 186 [none, none, none, none, none, none] []) → Gd l E K 0 0 o σ6 28 [some (.ref (E.2.1 51)), some (.int v1), some (.int v3), some (.int w5), none, none] [] := by
    intro n
    induction n with
    | zero =>
      intro w5 σ6 z1 hi
      exact (iter_0 hi).elim
    | succ n ih1 =>
      intro w5 σ6 z1 hi1 kx1
      obtain ⟨r1, h, hi1⟩ := iter_s hi1
      replace h : B_X10_findLeast_8 v1 v3 w5 σ6 = some r1 := h
      delta B_X10_findLeast_8 at h
      refine g_iload_n (pc := 28) hC dX10_findLeast_28 rfl ?_
      refine g_if_lt (tgt := 186) (pc := 29) hC dX10_findLeast_29 (by decide) (fun c8 => ?_) (fun c8 => ?_)
      · replace h := it_t c8 h
        refine g_mask [false, false, false, false, false, false] rfl ?_
        exact kx1 σ6 (iter_r h hi1)
      · replace h := it_f c8 h
        refine g_iload_n (pc := 32) hC dX10_findLeast_32 rfl ?_
        refine g_istore (lv2 := [some (.ref (E.2.1 51)), some (.int v1), some (.int v3), some (.int w5), some (.int v3), none]) (pc := 33) hC dX10_findLeast_33 rfl (Or.inr rfl) (hN _ (by decide)) ?_
        have hL2 : ∀ (n : Nat) (w9 : Int32) (σ10 : uS) (z2 : uS), iter n (fun z => B_X10_findLeast_6 v1 v3 w5 z.1 z.2) (w9, σ10) = some z2 → (∀ (σ11 : uS), z2 = σ11 → Gd l E K 0 0 o σ11 180 [some (.ref (E.2.1 51)), some (.int v1), some (.int v3), some (.int w5), none, none] []) → Gd l E K 0 0 o σ10 35 [some (.ref (E.2.1 51)), some (.int v1), some (.int v3), some (.int w5), some (.int w9), none] [] := by
          intro n
          induction n with
          | zero =>
            intro w9 σ10 z2 hi
            exact (iter_0 hi).elim
          | succ n ih2 =>
            intro w9 σ10 z2 hi2 kx2
            obtain ⟨r2, h, hi2⟩ := iter_s hi2
            replace h : B_X10_findLeast_6 v1 v3 w5 w9 σ10 = some r2 := h
            delta B_X10_findLeast_6 at h
            refine g_iload (pc := 35) hC dX10_findLeast_35 rfl ?_
            refine g_if_lt (tgt := 180) (pc := 37) hC dX10_findLeast_37 (by decide) (fun c12 => ?_) (fun c12 => ?_)
            · replace h := it_t c12 h
              refine g_mask [true, true, true, true, false, false] rfl ?_
              exact kx2 σ10 (iter_r h hi2)
            · replace h := it_f c12 h
              refine g_iload_n (pc := 40) hC dX10_findLeast_40 rfl ?_
              refine g_aload_n (pc := 41) hC dX10_findLeast_41 rfl ?_
              refine fg_X10_29_51 (pc := 42) hC dX10_findLeast_42 ?_
              refine g_iload_n (pc := 45) hC dX10_findLeast_45 rfl ?_
              refine g_isub (pc := 46) hC dX10_findLeast_46 ?_
              refine g_iload_n (pc := 47) hC dX10_findLeast_47 rfl ?_
              refine g_iadd (pc := 48) hC dX10_findLeast_48 ?_
              refine g_iload (pc := 49) hC dX10_findLeast_49 rfl ?_
              refine g_isub (pc := 51) hC dX10_findLeast_51 ?_
              refine g_imul (pc := 52) hC dX10_findLeast_52 ?_
              obtain ⟨v13, ev13, h⟩ := lt_e h
              refine g_top ev13 ?_
              refine g_istore (lv2 := [some (.ref (E.2.1 51)), some (.int v1), some (.int v3), some (.int w5), some (.int w9), some (.int v13)]) (pc := 53) hC dX10_findLeast_53 rfl (Or.inr rfl) (hN _ (by decide)) ?_
              refine g_iload_n (pc := 55) hC dX10_findLeast_55 rfl ?_
              refine g_aload_n (pc := 56) hC dX10_findLeast_56 rfl ?_
              refine fg_X10_29_51 (pc := 57) hC dX10_findLeast_57 ?_
              have hJ86 : ∀ (v17 : Int32), J_X10_findLeast_5 v1 v3 w5 w9 σ10 v17 = some r2 → Gd l E K 0 0 o σ10 86 [some (.ref (E.2.1 51)), some (.int v1), some (.int v3), some (.int w5), some (.int w9), some (.int v17)] [] := by
                intro v17 h
                delta J_X10_findLeast_5 at h
                refine g_iload (pc := 86) hC dX10_findLeast_86 rfl ?_
                refine g_iload_n (pc := 88) hC dX10_findLeast_88 rfl ?_
                have hJ115 : ∀ (v21 : Int32), J_X10_findLeast_4 v3 w5 w9 σ10 v21 = some r2 → Gd l E K 0 0 o σ10 115 [some (.ref (E.2.1 51)), some (.int v1), some (.int v3), some (.int w5), some (.int w9), some (.int v21)] [] := by
                  intro v21 h
                  delta J_X10_findLeast_4 at h
                  refine g_iload_n (pc := 115) hC dX10_findLeast_115 rfl ?_
                  refine g_aload_n (pc := 116) hC dX10_findLeast_116 rfl ?_
                  refine fg_X10_29_51 (pc := 117) hC dX10_findLeast_117 ?_
                  have hJ160 : ∀ (v27 : Int32), J_X10_findLeast_3 w5 w9 σ10 v27 = some r2 → Gd l E K 0 0 o σ10 160 [some (.ref (E.2.1 51)), some (.int v1), some (.int v3), some (.int w5), some (.int w9), some (.int v27)] [] := by
                    intro v27 h
                    delta J_X10_findLeast_3 at h
                    refine g_aload_n (pc := 160) hC dX10_findLeast_160 rfl ?_
                    refine fg_X10_18_51 (pc := 161) hC dX10_findLeast_161 ?_
                    refine g_iload_n (pc := 164) hC dX10_findLeast_164 rfl ?_
                    refine g_bipush (pc := 165) hC kb_101 dX10_findLeast_165 ?_
                    refine g_imul (pc := 167) hC dX10_findLeast_167 ?_
                    refine g_iload (pc := 168) hC dX10_findLeast_168 rfl ?_
                    refine g_iadd (pc := 170) hC dX10_findLeast_170 ?_
                    refine g_iload (pc := 171) hC dX10_findLeast_171 rfl ?_
                    obtain ⟨σ28, eσ28, nσ28, h⟩ := wr_e h
                    refine g_iast (pc := 173) hC 54 (by decide) (ar_54 _ _) nσ28 dX10_findLeast_173 eσ28 ?_
                    obtain ⟨v29, ev29, h⟩ := lt_e h
                    refine g_iinc (v := v29) (lv2 := [some (.ref (E.2.1 51)), some (.int v1), some (.int v3), some (.int w5), some (.int v29), some (.int v27)]) (pc := 174) hC dX10_findLeast_174 rfl ev29 rfl (Or.inr rfl) (hN _ (by decide)) ?_
                    refine g_goto (tgt := 35) (pc := 177) hC dX10_findLeast_177 (by decide) ?_
                    refine g_mask [true, true, true, true, true, false] rfl ?_
                    exact ih2 v29 σ28 z2 (iter_l h hi2) kx2
                  refine g_icmp_ge (tgt := 160) (pc := 120) hC dX10_findLeast_120 (by decide) (fun c22 => ?_) (fun c22 => ?_)
                  · replace h := it_t c22 h
                    exact hJ160 v21 h
                  · replace h := it_f c22 h
                    refine g_iload (pc := 123) hC dX10_findLeast_123 rfl ?_
                    refine g_iload_n (pc := 125) hC dX10_findLeast_125 rfl ?_
                    refine g_icmp_ge (tgt := 160) (pc := 126) hC dX10_findLeast_126 (by decide) (fun c23 => ?_) (fun c23 => ?_)
                    · replace h := it_t c23 h
                      exact hJ160 v21 h
                    · replace h := it_f c23 h
                      refine g_iload (pc := 129) hC dX10_findLeast_129 rfl ?_
                      refine g_aload_n (pc := 131) hC dX10_findLeast_131 rfl ?_
                      refine g_iload_n (pc := 132) hC dX10_findLeast_132 rfl ?_
                      refine g_iload (pc := 133) hC dX10_findLeast_133 rfl ?_
                      obtain ⟨v24, hc, h⟩ := cp_e h
                      refine g_callVi (pc := 135) (As := [.int w5, .int w9]) (rest := [.int v21]) hC (c_X10_pairPrice l E w5 w9 σ10 v24 hc) mi_X10_pairPrice mv_X10_pairPrice ob_51 rfl rfl lk_X10_60 rfl rfl (Nat.le_of_ble_eq_true rfl) ⟨by decide, by decide⟩ hab dX10_findLeast_135 ?_
                      refine g_aload_n (pc := 138) hC dX10_findLeast_138 rfl ?_
                      refine fg_X10_18_51 (pc := 139) hC dX10_findLeast_139 ?_
                      refine g_iload_n (pc := 142) hC dX10_findLeast_142 rfl ?_
                      refine g_iconst (pc := 143) hC ki_1 dX10_findLeast_143 ?_
                      refine g_iadd (pc := 144) hC dX10_findLeast_144 ?_
                      refine g_bipush (pc := 145) hC kb_101 dX10_findLeast_145 ?_
                      refine g_imul (pc := 147) hC dX10_findLeast_147 ?_
                      refine g_iload (pc := 148) hC dX10_findLeast_148 rfl ?_
                      refine g_iadd (pc := 150) hC dX10_findLeast_150 ?_
                      refine g_iconst (pc := 151) hC ki_1 dX10_findLeast_151 ?_
                      refine g_iadd (pc := 152) hC dX10_findLeast_152 ?_
                      obtain ⟨v25, ev25, nv25, h⟩ := rd_e h
                      refine g_iald (pc := 153) hC 54 (by decide) (ar_54 _ _ _) nv25 dX10_findLeast_153 ?_
                      refine g_top ev25 ?_
                      refine g_iadd (pc := 154) hC dX10_findLeast_154 ?_
                      obtain ⟨v26, hc, h⟩ := cp_e h
                      refine g_callSi (pc := 155) (As := [.int v21, .int (v24 + v25)]) (rest := []) hC (c_J9_min_7cf53 l E v21 (v24 + v25) σ10 v26 hc) mi_J9_min_7cf53 ms_J9_min_7cf53 lk_X10_55 rfl rfl (Nat.le_of_ble_eq_true rfl) ⟨by decide, by decide⟩ hab dX10_findLeast_155 ?_
                      refine g_istore (lv2 := [some (.ref (E.2.1 51)), some (.int v1), some (.int v3), some (.int w5), some (.int w9), some (.int v26)]) (pc := 158) hC dX10_findLeast_158 rfl (Or.inr rfl) (hN _ (by decide)) ?_
                      exact hJ160 v26 h
                refine g_icmp_ge (tgt := 115) (pc := 89) hC dX10_findLeast_89 (by decide) (fun c18 => ?_) (fun c18 => ?_)
                · replace h := it_t c18 h
                  exact hJ115 v17 h
                · replace h := it_f c18 h
                  refine g_iload (pc := 92) hC dX10_findLeast_92 rfl ?_
                  refine g_iload_n (pc := 94) hC dX10_findLeast_94 rfl ?_
                  refine g_aload_n (pc := 95) hC dX10_findLeast_95 rfl ?_
                  refine fg_X10_18_51 (pc := 96) hC dX10_findLeast_96 ?_
                  refine g_iload_n (pc := 99) hC dX10_findLeast_99 rfl ?_
                  refine g_bipush (pc := 100) hC kb_101 dX10_findLeast_100 ?_
                  refine g_imul (pc := 102) hC dX10_findLeast_102 ?_
                  refine g_iload (pc := 103) hC dX10_findLeast_103 rfl ?_
                  refine g_iadd (pc := 105) hC dX10_findLeast_105 ?_
                  refine g_iconst (pc := 106) hC ki_1 dX10_findLeast_106 ?_
                  refine g_iadd (pc := 107) hC dX10_findLeast_107 ?_
                  obtain ⟨v19, ev19, nv19, h⟩ := rd_e h
                  refine g_iald (pc := 108) hC 54 (by decide) (ar_54 _ _ _) nv19 dX10_findLeast_108 ?_
                  refine g_top ev19 ?_
                  refine g_iadd (pc := 109) hC dX10_findLeast_109 ?_
                  obtain ⟨v20, hc, h⟩ := cp_e h
                  refine g_callSi (pc := 110) (As := [.int v17, .int (v1 + v19)]) (rest := []) hC (c_J9_min_7cf53 l E v17 (v1 + v19) σ10 v20 hc) mi_J9_min_7cf53 ms_J9_min_7cf53 lk_X10_55 rfl rfl (Nat.le_of_ble_eq_true rfl) ⟨by decide, by decide⟩ hab dX10_findLeast_110 ?_
                  refine g_istore (lv2 := [some (.ref (E.2.1 51)), some (.int v1), some (.int v3), some (.int w5), some (.int w9), some (.int v20)]) (pc := 113) hC dX10_findLeast_113 rfl (Or.inr rfl) (hN _ (by decide)) ?_
                  exact hJ115 v20 h
              refine g_icmp_ge (tgt := 86) (pc := 60) hC dX10_findLeast_60 (by decide) (fun c14 => ?_) (fun c14 => ?_)
              · replace h := it_t c14 h
                exact hJ86 v13 h
              · replace h := it_f c14 h
                refine g_iload (pc := 63) hC dX10_findLeast_63 rfl ?_
                refine g_iload_n (pc := 65) hC dX10_findLeast_65 rfl ?_
                refine g_aload_n (pc := 66) hC dX10_findLeast_66 rfl ?_
                refine fg_X10_18_51 (pc := 67) hC dX10_findLeast_67 ?_
                refine g_iload_n (pc := 70) hC dX10_findLeast_70 rfl ?_
                refine g_iconst (pc := 71) hC ki_1 dX10_findLeast_71 ?_
                refine g_iadd (pc := 72) hC dX10_findLeast_72 ?_
                refine g_bipush (pc := 73) hC kb_101 dX10_findLeast_73 ?_
                refine g_imul (pc := 75) hC dX10_findLeast_75 ?_
                refine g_iload (pc := 76) hC dX10_findLeast_76 rfl ?_
                refine g_iadd (pc := 78) hC dX10_findLeast_78 ?_
                obtain ⟨v15, ev15, nv15, h⟩ := rd_e h
                refine g_iald (pc := 79) hC 54 (by decide) (ar_54 _ _ _) nv15 dX10_findLeast_79 ?_
                refine g_top ev15 ?_
                refine g_iadd (pc := 80) hC dX10_findLeast_80 ?_
                obtain ⟨v16, hc, h⟩ := cp_e h
                refine g_callSi (pc := 81) (As := [.int v13, .int (v1 + v15)]) (rest := []) hC (c_J9_min_7cf53 l E v13 (v1 + v15) σ10 v16 hc) mi_J9_min_7cf53 ms_J9_min_7cf53 lk_X10_55 rfl rfl (Nat.le_of_ble_eq_true rfl) ⟨by decide, by decide⟩ hab dX10_findLeast_81 ?_
                refine g_istore (lv2 := [some (.ref (E.2.1 51)), some (.int v1), some (.int v3), some (.int w5), some (.int w9), some (.int v16)]) (pc := 84) hC dX10_findLeast_84 rfl (Or.inr rfl) (hN _ (by decide)) ?_
                exact hJ86 v16 h
        obtain ⟨z2, hz2, h⟩ := lp_e h
        refine hL2 FU v3 σ6 z2 hz2 (fun σ11 ez => ?_)
        replace h : C_X10_findLeast_7 w5 σ11 = some r1 := by rw [ez] at h; exact h
        delta C_X10_findLeast_7 at h
        obtain ⟨v30, ev30, h⟩ := lt_e h
        refine g_iinc (v := v30) (lv2 := [some (.ref (E.2.1 51)), some (.int v1), some (.int v3), some (.int v30), none, none]) (pc := 180) hC dX10_findLeast_180 rfl ev30 rfl (Or.inr rfl) (hN _ (by decide)) ?_
        refine g_goto (tgt := 28) (pc := 183) hC dX10_findLeast_183 (by decide) ?_
        exact ih1 v30 σ11 z1 (iter_l h hi1) kx1
  obtain ⟨z1, hz1, h⟩ := lp_e h
  refine hL1 FU v4 σ z1 hz1 (fun σ7 ez => ?_)
  replace h : C_X10_findLeast_9 σ7 = some σr := by rw [ez] at h; exact h
  delta C_X10_findLeast_9 at h
  exact g_retv (pc := 186) hC h hR dX10_findLeast_186
set_option maxRecDepth 20000 in
theorem c_X10_firstPair (l : Launch) (E : uE) (a1 : Int32) (a2 : Int32) (σ : uS) (r : Int32) (h : F_X10_firstPair a1 a2 σ = some r) : CtI l E yX10_firstPair cX10_firstPair 7 (some .int) 3 64 [.ref (E.2.1 51), .int a1, .int a2] σ r σ := by
  refine enterI 4 [some (.ref (E.2.1 51)), some (.int a1), some (.int a2), none, none, none, none] (by decide +kernel) rfl (Nat.le_of_ble_eq_true rfl) (fun o K hnL hC hab hR => ?_)
  have hC : Cx E K RX10 cX10_firstPair (some .int) 3 64 := hC
  have hN : ∀ k, k < 7 → k < K.2.2.2.2.2 := fun k hk => hnL ▸ hk
  delta F_X10_firstPair at h
  refine g_aload_n (pc := 0) hC dX10_firstPair_0 rfl ?_
  refine fg_X10_25_51 (pc := 1) hC dX10_firstPair_1 ?_
  refine g_bipush (pc := 4) hC kb_15 dX10_firstPair_4 ?_
  obtain ⟨v1, hc, h⟩ := cp_e h
  refine g_callVi (pc := 6) (As := [.int 15]) (rest := []) hC (c_X0_of l E 15 σ v1 hc) mi_X0_of mv_X0_of ob_4 rfl rfl lk_X10_46 rfl rfl (Nat.le_of_ble_eq_true rfl) ⟨by decide, by decide⟩ hab dX10_firstPair_6 ?_
  refine g_istore_n (lv2 := [some (.ref (E.2.1 51)), some (.int a1), some (.int a2), some (.int v1), none, none, none]) (pc := 9) hC dX10_firstPair_9 rfl (Or.inr rfl) (hN _ (by decide)) ?_
  refine g_bipush (pc := 10) hC kb_100 dX10_firstPair_10 ?_
  refine g_aload_n (pc := 12) hC dX10_firstPair_12 rfl ?_
  refine fg_X10_21_51 (pc := 13) hC dX10_firstPair_13 ?_
  obtain ⟨v2, hc, h⟩ := cp_e h
  refine g_callVi (pc := 16) (As := []) (rest := [.int 100]) hC (c_X4_size l E σ v2 hc) mi_X4_size mv_X4_size ob_38 rfl rfl lk_X10_50 rfl rfl (Nat.le_of_ble_eq_true rfl) ⟨by decide, by decide⟩ hab dX10_firstPair_16 ?_
  obtain ⟨v3, hc, h⟩ := cp_e h
  refine g_callSi (pc := 19) (As := [.int 100, .int v2]) (rest := []) hC (c_J9_min_7cf53 l E 100 v2 σ v3 hc) mi_J9_min_7cf53 ms_J9_min_7cf53 lk_X10_55 rfl rfl (Nat.le_of_ble_eq_true rfl) ⟨by decide, by decide⟩ hab dX10_firstPair_19 ?_
  refine g_istore (lv2 := [some (.ref (E.2.1 51)), some (.int a1), some (.int a2), some (.int v1), some (.int v3), none, none]) (pc := 22) hC dX10_firstPair_22 rfl (Or.inr rfl) (hN _ (by decide)) ?_
  refine g_iload_n (pc := 24) hC dX10_firstPair_24 rfl ?_
  refine g_istore (lv2 := [some (.ref (E.2.1 51)), some (.int a1), some (.int a2), some (.int v1), some (.int v3), some (.int a2), none]) (pc := 25) hC dX10_firstPair_25 rfl (Or.inr rfl) (hN _ (by decide)) ?_
  have hL1 : ∀ (n : Nat) (w4 : Int32) (z1 : (Unit) ⊕ (Int32)), iter n (fun z => B_X10_firstPair_2 a1 a2 v1 v3 σ z) w4 = some z1 → (z1 = .inl () → Gd l E K 0 0 o σ 92 [none, none, none, none, none, none, none] []) → (∀ q, z1 = .inr q → some q = some r) → Gd l E K 0 0 o σ 27 [some (.ref (E.2.1 51)), some (.int a1), some (.int a2), some (.int v1), some (.int v3), some (.int w4), none] [] := by
    intro n
    induction n with
    | zero =>
      intro w4 z1 hi
      exact (iter_0 hi).elim
    | succ n ih1 =>
      intro w4 z1 hi1 kx1 kr1
      obtain ⟨r1, h, hi1⟩ := iter_s hi1
      replace h : B_X10_firstPair_2 a1 a2 v1 v3 σ w4 = some r1 := h
      delta B_X10_firstPair_2 at h
      refine g_iload (pc := 27) hC dX10_firstPair_27 rfl ?_
      refine g_iload (pc := 29) hC dX10_firstPair_29 rfl ?_
      refine g_icmp_ge (tgt := 92) (pc := 31) hC dX10_firstPair_31 (by decide) (fun c5 => ?_) (fun c5 => ?_)
      · replace h := it_t c5 h
        refine g_mask [false, false, false, false, false, false, false] rfl ?_
        exact kx1 (iter_r h hi1)
      · replace h := it_f c5 h
        refine g_iload_n (pc := 34) hC dX10_firstPair_34 rfl ?_
        refine g_iload (pc := 35) hC dX10_firstPair_35 rfl ?_
        refine g_iload_n (pc := 37) hC dX10_firstPair_37 rfl ?_
        refine g_isub (pc := 38) hC dX10_firstPair_38 ?_
        refine g_imul (pc := 39) hC dX10_firstPair_39 ?_
        refine g_aload_n (pc := 40) hC dX10_firstPair_40 rfl ?_
        refine g_iload_n (pc := 41) hC dX10_firstPair_41 rfl ?_
        refine g_iload (pc := 42) hC dX10_firstPair_42 rfl ?_
        obtain ⟨v6, hc, h⟩ := cp_e h
        refine g_callVi (pc := 44) (As := [.int a1, .int w4]) (rest := [.int (v1 * (w4 - a2))]) hC (c_X10_pairPrice l E a1 w4 σ v6 hc) mi_X10_pairPrice mv_X10_pairPrice ob_51 rfl rfl lk_X10_60 rfl rfl (Nat.le_of_ble_eq_true rfl) ⟨by decide, by decide⟩ hab dX10_firstPair_44 ?_
        refine g_iadd (pc := 47) hC dX10_firstPair_47 ?_
        refine g_aload_n (pc := 48) hC dX10_firstPair_48 rfl ?_
        refine fg_X10_18_51 (pc := 49) hC dX10_firstPair_49 ?_
        refine g_iload_n (pc := 52) hC dX10_firstPair_52 rfl ?_
        refine g_iconst (pc := 53) hC ki_1 dX10_firstPair_53 ?_
        refine g_iadd (pc := 54) hC dX10_firstPair_54 ?_
        refine g_bipush (pc := 55) hC kb_101 dX10_firstPair_55 ?_
        refine g_imul (pc := 57) hC dX10_firstPair_57 ?_
        refine g_iload (pc := 58) hC dX10_firstPair_58 rfl ?_
        refine g_iadd (pc := 60) hC dX10_firstPair_60 ?_
        refine g_iconst (pc := 61) hC ki_1 dX10_firstPair_61 ?_
        refine g_iadd (pc := 62) hC dX10_firstPair_62 ?_
        obtain ⟨v7, ev7, nv7, h⟩ := rd_e h
        refine g_iald (pc := 63) hC 54 (by decide) (ar_54 _ _ _) nv7 dX10_firstPair_63 ?_
        refine g_top ev7 ?_
        refine g_iadd (pc := 64) hC dX10_firstPair_64 ?_
        obtain ⟨v8, ev8, h⟩ := lt_e h
        refine g_top ev8 ?_
        refine g_istore (lv2 := [some (.ref (E.2.1 51)), some (.int a1), some (.int a2), some (.int v1), some (.int v3), some (.int w4), some (.int v8)]) (pc := 65) hC dX10_firstPair_65 rfl (Or.inr rfl) (hN _ (by decide)) ?_
        refine g_iload (pc := 67) hC dX10_firstPair_67 rfl ?_
        refine g_aload_n (pc := 69) hC dX10_firstPair_69 rfl ?_
        refine fg_X10_18_51 (pc := 70) hC dX10_firstPair_70 ?_
        refine g_iload_n (pc := 73) hC dX10_firstPair_73 rfl ?_
        refine g_bipush (pc := 74) hC kb_101 dX10_firstPair_74 ?_
        refine g_imul (pc := 76) hC dX10_firstPair_76 ?_
        refine g_iload_n (pc := 77) hC dX10_firstPair_77 rfl ?_
        refine g_iadd (pc := 78) hC dX10_firstPair_78 ?_
        obtain ⟨v9, ev9, nv9, h⟩ := rd_e h
        refine g_iald (pc := 79) hC 54 (by decide) (ar_54 _ _ _) nv9 dX10_firstPair_79 ?_
        refine g_top ev9 ?_
        refine g_icmp_ne (tgt := 86) (pc := 80) hC dX10_firstPair_80 (by decide) (fun c10 => ?_) (fun c10 => ?_)
        · replace h := it_f c10 h
          obtain ⟨v11, ev11, h⟩ := lt_e h
          refine g_iinc (v := v11) (lv2 := [some (.ref (E.2.1 51)), some (.int a1), some (.int a2), some (.int v1), some (.int v3), some (.int v11), some (.int v8)]) (pc := 86) hC dX10_firstPair_86 rfl ev11 rfl (Or.inr rfl) (hN _ (by decide)) ?_
          refine g_goto (tgt := 27) (pc := 89) hC dX10_firstPair_89 (by decide) ?_
          refine g_mask [true, true, true, true, true, true, false] rfl ?_
          exact ih1 v11 z1 (iter_l h hi1) kx1 kr1
        · replace h := it_t c10 h
          refine g_iload (pc := 83) hC dX10_firstPair_83 rfl ?_
          exact g_retp (pc := 85) hC (kr1 _ (iter_r h hi1)) hR dX10_firstPair_85
  obtain ⟨z1, hz1, h⟩ := lp_e h
  refine hL1 FU a2 z1 hz1 (fun ez => ?_) (fun q ez => by rw [ez] at h; exact h)
  replace h : C_X10_firstPair_3 = some r := by rw [ez] at h; exact h
  delta C_X10_firstPair_3 at h
  refine g_iconst (pc := 92) hC ki_m1 dX10_firstPair_92 ?_
  exact g_retp (pc := 93) hC h hR dX10_firstPair_93
set_option maxRecDepth 20000 in
theorem c_X10_findPairs (l : Launch) (E : uE) (σ : uS) (σr : uS) (h : F_X10_findPairs σ = some σr) : CtV l E yX10_findPairs cX10_findPairs 3 4 90 [.ref (E.2.1 51)] σ σr := by
  refine enterV 2 [some (.ref (E.2.1 51)), none, none] (by decide +kernel) rfl (Nat.le_of_ble_eq_true rfl) (fun o K hnL hC hab hR => ?_)
  have hC : Cx E K RX10 cX10_findPairs none 4 90 := hC
  have hN : ∀ k, k < 3 → k < K.2.2.2.2.2 := fun k hk => hnL ▸ hk
  delta F_X10_findPairs at h
  refine g_aload_n (pc := 0) hC dX10_findPairs_0 rfl ?_
  obtain ⟨σ1, hc, h⟩ := cp_e h
  refine g_callVv (pc := 1) (As := []) (rest := []) hC (c_X10_findLeast l E σ σ1 hc) mi_X10_findLeast mv_X10_findLeast ob_51 rfl rfl lk_X10_37 rfl rfl (Nat.le_of_ble_eq_true rfl) ⟨by decide, by decide⟩ hab dX10_findPairs_1 ?_
  refine g_iconst (pc := 4) hC ki_0 dX10_findPairs_4 ?_
  refine g_istore_n (lv2 := [some (.ref (E.2.1 51)), some (.int 0), none]) (pc := 5) hC dX10_findPairs_5 rfl (Or.inr rfl) (hN _ (by decide)) ?_
  refine g_iconst (pc := 6) hC ki_0 dX10_findPairs_6 ?_
  refine g_istore_n (lv2 := [some (.ref (E.2.1 51)), some (.int 0), some (.int 0)]) (pc := 7) hC dX10_findPairs_7 rfl (Or.inr rfl) (hN _ (by decide)) ?_
  have hL1 : ∀ (n : Nat) (w2 : Int32) (w3 : Int32) (σ4 : uS) (z1 : uS), iter n (fun z => B_X10_findPairs_3 z.1 z.2.1 z.2.2) (w2, w3, σ4) = some z1 → (∀ (σ5 : uS), z1 = σ5 → Gd l E K 0 0 o σ5 57 [none, none, none] []) → Gd l E K 0 0 o σ4 8 [some (.ref (E.2.1 51)), some (.int w2), some (.int w3)] [] := by
    intro n
    induction n with
    | zero =>
      intro w2 w3 σ4 z1 hi
      exact (iter_0 hi).elim
    | succ n ih1 =>
      intro w2 w3 σ4 z1 hi1 kx1
      obtain ⟨r1, h, hi1⟩ := iter_s hi1
      replace h : B_X10_findPairs_3 w2 w3 σ4 = some r1 := h
      delta B_X10_findPairs_3 at h
      refine g_iload_n (pc := 8) hC dX10_findPairs_8 rfl ?_
      refine g_aload_n (pc := 9) hC dX10_findPairs_9 rfl ?_
      refine fg_X10_29_51 (pc := 10) hC dX10_findPairs_10 ?_
      refine g_icmp_ge (tgt := 57) (pc := 13) hC dX10_findPairs_13 (by decide) (fun c6 => ?_) (fun c6 => ?_)
      · replace h := it_t c6 h
        refine g_mask [false, false, false] rfl ?_
        exact kx1 σ4 (iter_r h hi1)
      · replace h := it_f c6 h
        refine g_aload_n (pc := 16) hC dX10_findPairs_16 rfl ?_
        refine fg_X10_15_51 (pc := 17) hC dX10_findPairs_17 ?_
        refine g_iload_n (pc := 20) hC dX10_findPairs_20 rfl ?_
        refine g_aload_n (pc := 21) hC dX10_findPairs_21 rfl ?_
        refine g_iload_n (pc := 22) hC dX10_findPairs_22 rfl ?_
        refine g_iload_n (pc := 23) hC dX10_findPairs_23 rfl ?_
        obtain ⟨v7, hc, h⟩ := cp_e h
        refine g_callVi (pc := 24) (As := [.int w3, .int w2]) (rest := [.int w3, .ref (E.2.1 53)]) hC (c_X10_firstPair l E w3 w2 σ4 v7 hc) mi_X10_firstPair mv_X10_firstPair ob_51 rfl rfl lk_X10_40 rfl rfl (Nat.le_of_ble_eq_true rfl) ⟨by decide, by decide⟩ hab dX10_findPairs_24 ?_
        obtain ⟨σ8, eσ8, nσ8, h⟩ := wr_e h
        refine g_iast (pc := 27) hC 53 (by decide) (ar_53 _ _) nσ8 dX10_findPairs_27 eσ8 ?_
        refine g_aload_n (pc := 28) hC dX10_findPairs_28 rfl ?_
        refine fg_X10_15_51 (pc := 29) hC dX10_findPairs_29 ?_
        refine g_iload_n (pc := 32) hC dX10_findPairs_32 rfl ?_
        obtain ⟨v9, ev9, nv9, h⟩ := rd_e h
        refine g_iald (pc := 33) hC 53 (by decide) (ar_53 _ _ _) nv9 dX10_findPairs_33 ?_
        refine g_top ev9 ?_
        refine g_iconst (pc := 34) hC ki_m1 dX10_findPairs_34 ?_
        have hJ50 : ∀ (v12 : Int32), J_X10_findPairs_2 w3 σ8 v12 = some r1 → Gd l E K 0 0 o σ8 50 [some (.ref (E.2.1 51)), none, some (.int w3)] [.int v12] := by
          intro v12 h
          delta J_X10_findPairs_2 at h
          refine g_istore_n (lv2 := [some (.ref (E.2.1 51)), some (.int v12), some (.int w3)]) (pc := 50) hC dX10_findPairs_50 rfl (Or.inr rfl) (hN _ (by decide)) ?_
          obtain ⟨v13, ev13, h⟩ := lt_e h
          refine g_iinc (v := v13) (lv2 := [some (.ref (E.2.1 51)), some (.int v12), some (.int v13)]) (pc := 51) hC dX10_findPairs_51 rfl ev13 rfl (Or.inr rfl) (hN _ (by decide)) ?_
          refine g_goto (tgt := 8) (pc := 54) hC dX10_findPairs_54 (by decide) ?_
          exact ih1 v12 v13 σ8 z1 (iter_l h hi1) kx1
        refine g_icmp_ne (tgt := 42) (pc := 35) hC dX10_findPairs_35 (by decide) (fun c10 => ?_) (fun c10 => ?_)
        · replace h := it_f c10 h
          refine g_aload_n (pc := 42) hC dX10_findPairs_42 rfl ?_
          refine fg_X10_15_51 (pc := 43) hC dX10_findPairs_43 ?_
          refine g_iload_n (pc := 46) hC dX10_findPairs_46 rfl ?_
          obtain ⟨v11, ev11, nv11, h⟩ := rd_e h
          refine g_iald (pc := 47) hC 53 (by decide) (ar_53 _ _ _) nv11 dX10_findPairs_47 ?_
          refine g_top ev11 ?_
          refine g_iconst (pc := 48) hC ki_1 dX10_findPairs_48 ?_
          refine g_iadd (pc := 49) hC dX10_findPairs_49 ?_
          refine g_mask [true, false, true] rfl ?_
          exact hJ50 (v11 + 1) h
        · replace h := it_t c10 h
          refine g_iload_n (pc := 38) hC dX10_findPairs_38 rfl ?_
          refine g_goto (tgt := 50) (pc := 39) hC dX10_findPairs_39 (by decide) ?_
          refine g_mask [true, false, true] rfl ?_
          exact hJ50 w2 h
  obtain ⟨z1, hz1, h⟩ := lp_e h
  refine hL1 FU 0 0 σ1 z1 hz1 (fun σ5 ez => ?_)
  replace h : C_X10_findPairs_4 σ5 = some σr := by rw [ez] at h; exact h
  delta C_X10_findPairs_4 at h
  exact g_retv (pc := 57) hC h hR dX10_findPairs_57
set_option maxRecDepth 20000 in
theorem c_X11_feed (l : Launch) (E : uE) (a1 : Int32) (a2 : Int32) (a3 : Int32) (a4 : Int32) (a5 : Int32) (σ : uS) (r : Int32) (σr : uS) (h : F_X11_feed a1 a2 a3 a4 a5 σ = some (r, σr)) : CtI l E yX11_feed cX11_feed 6 (some .int) 1 22 [.ref (E.2.1 0), .int a1, .int a2, .int a3, .int a4, .int a5] σ r σr := by
  refine enterI 0 [some (.ref (E.2.1 0)), some (.int a1), some (.int a2), some (.int a3), some (.int a4), some (.int a5)] (by decide +kernel) rfl (Nat.le_of_ble_eq_true rfl) (fun o K hnL hC hab hR => ?_)
  have hC : Cx E K RX11 cX11_feed (some .int) 1 22 := hC
  have hN : ∀ k, k < 6 → k < K.2.2.2.2.2 := fun k hk => hnL ▸ hk
  delta F_X11_feed at h
  refine g_aload_n (pc := 0) hC dX11_feed_0 rfl ?_
  refine fg_X11_10_0 (pc := 1) hC dX11_feed_1 ?_
  obtain ⟨v1, hc, h⟩ := cp_e h
  refine g_callVi (pc := 4) (As := []) (rest := []) hC (c_X7_tapeSize l E σ v1 hc) mi_X7_tapeSize mv_X7_tapeSize ob_1 rfl rfl lk_X11_93 rfl rfl (Nat.le_of_ble_eq_true rfl) ⟨by decide, by decide⟩ hab dX11_feed_4 ?_
  refine g_bipush (pc := 7) hC kb_20 dX11_feed_7 ?_
  refine g_iadd (pc := 9) hC dX11_feed_9 ?_
  refine g_sipush (pc := 10) hC ks_400 dX11_feed_10 ?_
  refine g_icmp_le (tgt := 18) (pc := 13) hC dX11_feed_13 (by decide) (fun c2 => ?_) (fun c2 => ?_)
  · replace h := it_t c2 h
    refine g_aload_n (pc := 18) hC dX11_feed_18 rfl ?_
    refine fg_X11_10_0 (pc := 19) hC dX11_feed_19 ?_
    refine g_iload_n (pc := 22) hC dX11_feed_22 rfl ?_
    obtain ⟨σ3, hc, h⟩ := cp_e h
    refine g_callVv (pc := 23) (As := [.int a1]) (rest := []) hC (c_X7_tapeNumber l E a1 σ σ3 hc) mi_X7_tapeNumber mv_X7_tapeNumber ob_1 rfl rfl lk_X11_97 rfl rfl (Nat.le_of_ble_eq_true rfl) ⟨by decide, by decide⟩ hab dX11_feed_23 ?_
    refine g_aload_n (pc := 26) hC dX11_feed_26 rfl ?_
    refine fg_X11_10_0 (pc := 27) hC dX11_feed_27 ?_
    refine g_iload_n (pc := 30) hC dX11_feed_30 rfl ?_
    obtain ⟨σ4, hc, h⟩ := cp_e h
    refine g_callVv (pc := 31) (As := [.int a2]) (rest := []) hC (c_X7_tapeNumber l E a2 σ3 σ4 hc) mi_X7_tapeNumber mv_X7_tapeNumber ob_1 rfl rfl lk_X11_97 rfl rfl (Nat.le_of_ble_eq_true rfl) ⟨by decide, by decide⟩ hab dX11_feed_31 ?_
    refine g_aload_n (pc := 34) hC dX11_feed_34 rfl ?_
    refine fg_X11_10_0 (pc := 35) hC dX11_feed_35 ?_
    refine g_iload_n (pc := 38) hC dX11_feed_38 rfl ?_
    obtain ⟨σ5, hc, h⟩ := cp_e h
    refine g_callVv (pc := 39) (As := [.int a3]) (rest := []) hC (c_X7_tapeNumber l E a3 σ4 σ5 hc) mi_X7_tapeNumber mv_X7_tapeNumber ob_1 rfl rfl lk_X11_97 rfl rfl (Nat.le_of_ble_eq_true rfl) ⟨by decide, by decide⟩ hab dX11_feed_39 ?_
    refine g_aload_n (pc := 42) hC dX11_feed_42 rfl ?_
    refine fg_X11_10_0 (pc := 43) hC dX11_feed_43 ?_
    refine g_iload (pc := 46) hC dX11_feed_46 rfl ?_
    obtain ⟨σ6, hc, h⟩ := cp_e h
    refine g_callVv (pc := 48) (As := [.int a4]) (rest := []) hC (c_X7_tapeNumber l E a4 σ5 σ6 hc) mi_X7_tapeNumber mv_X7_tapeNumber ob_1 rfl rfl lk_X11_97 rfl rfl (Nat.le_of_ble_eq_true rfl) ⟨by decide, by decide⟩ hab dX11_feed_48 ?_
    refine g_aload_n (pc := 51) hC dX11_feed_51 rfl ?_
    refine fg_X11_10_0 (pc := 52) hC dX11_feed_52 ?_
    refine g_iload (pc := 55) hC dX11_feed_55 rfl ?_
    obtain ⟨σ7, hc, h⟩ := cp_e h
    refine g_callVv (pc := 57) (As := [.int a5]) (rest := []) hC (c_X7_tapeNumber l E a5 σ6 σ7 hc) mi_X7_tapeNumber mv_X7_tapeNumber ob_1 rfl rfl lk_X11_97 rfl rfl (Nat.le_of_ble_eq_true rfl) ⟨by decide, by decide⟩ hab dX11_feed_57 ?_
    refine g_aload_n (pc := 60) hC dX11_feed_60 rfl ?_
    refine fg_X11_10_0 (pc := 61) hC dX11_feed_61 ?_
    obtain ⟨v8, hc, h⟩ := cp_e h
    refine g_callVi (pc := 64) (As := []) (rest := []) hC (c_X7_tapeSize l E σ7 v8 hc) mi_X7_tapeSize mv_X7_tapeSize ob_1 rfl rfl lk_X11_93 rfl rfl (Nat.le_of_ble_eq_true rfl) ⟨by decide, by decide⟩ hab dX11_feed_64 ?_
    exact g_ret (pc := 67) hC h hR dX11_feed_67
  · replace h := it_f c2 h
    refine g_iconst (pc := 16) hC ki_m1 dX11_feed_16 ?_
    exact g_ret (pc := 17) hC h hR dX11_feed_17
set_option maxRecDepth 20000 in
theorem c_X11_forgetAnswers (l : Launch) (E : uE) (σ : uS) (σr : uS) (h : F_X11_forgetAnswers σ = some σr) : CtV l E yX11_forgetAnswers cX11_forgetAnswers 1 0 0 [.ref (E.2.1 0)] σ σr := by
  refine enterV 0 [some (.ref (E.2.1 0))] (by decide +kernel) rfl (Nat.le_of_ble_eq_true rfl) (fun o K hnL hC hab hR => ?_)
  have hC : Cx E K RX11 cX11_forgetAnswers none 0 0 := hC
  have hN : ∀ k, k < 1 → k < K.2.2.2.2.2 := fun k hk => hnL ▸ hk
  delta F_X11_forgetAnswers at h
  refine g_aload_n (pc := 0) hC dX11_forgetAnswers_0 rfl ?_
  refine g_iconst (pc := 1) hC ki_0 dX11_forgetAnswers_1 ?_
  obtain ⟨σ1, eσ1, h⟩ := pf_e h
  refine fp_X11_359_0 (pc := 2) hC (Or.inl rfl) dX11_forgetAnswers_2 eσ1 ?_
  refine g_aload_n (pc := 5) hC dX11_forgetAnswers_5 rfl ?_
  refine g_iconst (pc := 6) hC ki_0 dX11_forgetAnswers_6 ?_
  obtain ⟨σ2, eσ2, h⟩ := pf_e h
  refine fp_X11_363_0 (pc := 7) hC (Or.inl rfl) dX11_forgetAnswers_7 eσ2 ?_
  refine g_aload_n (pc := 10) hC dX11_forgetAnswers_10 rfl ?_
  refine g_iconst (pc := 11) hC ki_0 dX11_forgetAnswers_11 ?_
  obtain ⟨σ3, eσ3, h⟩ := pf_e h
  refine fp_X11_366_0 (pc := 12) hC (Or.inl rfl) dX11_forgetAnswers_12 eσ3 ?_
  exact g_retv (pc := 15) hC h hR dX11_forgetAnswers_15
set_option maxRecDepth 20000 in
theorem c_X11_changedFrom (l : Launch) (E : uE) (a1 : Int32) (a2 : Int32) (σ : uS) (r : Int32) (σr : uS) (h : F_X11_changedFrom a1 a2 σ = some (r, σr)) : CtI l E yX11_changedFrom cX11_changedFrom 3 (some .int) 3 65 [.ref (E.2.1 0), .int a1, .int a2] σ r σr := by
  refine enterI 0 [some (.ref (E.2.1 0)), some (.int a1), some (.int a2)] (by decide +kernel) rfl (Nat.le_of_ble_eq_true rfl) (fun o K hnL hC hab hR => ?_)
  have hC : Cx E K RX11 cX11_changedFrom (some .int) 3 65 := hC
  have hN : ∀ k, k < 3 → k < K.2.2.2.2.2 := fun k hk => hnL ▸ hk
  delta F_X11_changedFrom at h
  refine g_aload_n (pc := 0) hC dX11_changedFrom_0 rfl ?_
  refine fg_X11_28_0 (pc := 1) hC dX11_changedFrom_1 ?_
  refine g_iload_n (pc := 4) hC dX11_changedFrom_4 rfl ?_
  refine g_iload_n (pc := 5) hC dX11_changedFrom_5 rfl ?_
  obtain ⟨σ1, hc, h⟩ := cp_e h
  refine g_callVv (pc := 6) (As := [.int a1, .int a2]) (rest := []) hC (c_X2_forgetThose l E a1 a2 σ σ1 hc) mi_X2_forgetThose mv_X2_forgetThose ob_6 rfl rfl lk_X11_356 rfl rfl (Nat.le_of_ble_eq_true rfl) ⟨by decide, by decide⟩ hab dX11_changedFrom_6 ?_
  refine g_aload_n (pc := 9) hC dX11_changedFrom_9 rfl ?_
  obtain ⟨σ2, hc, h⟩ := cp_e h
  refine g_callVv (pc := 10) (As := []) (rest := []) hC (c_X11_forgetAnswers l E σ1 σ2 hc) mi_X11_forgetAnswers mv_X11_forgetAnswers ob_0 rfl rfl lk_X11_154 rfl rfl (Nat.le_of_ble_eq_true rfl) ⟨by decide, by decide⟩ hab dX11_changedFrom_10 ?_
  refine g_aload_n (pc := 13) hC dX11_changedFrom_13 rfl ?_
  refine fg_X11_10_0 (pc := 14) hC dX11_changedFrom_14 ?_
  obtain ⟨v3, hc, h⟩ := cp_e h
  refine g_callVi (pc := 17) (As := []) (rest := []) hC (c_X7_size l E σ2 v3 hc) mi_X7_size mv_X7_size ob_1 rfl rfl lk_X11_105 rfl rfl (Nat.le_of_ble_eq_true rfl) ⟨by decide, by decide⟩ hab dX11_changedFrom_17 ?_
  exact g_ret (pc := 20) hC h hR dX11_changedFrom_20
set_option maxRecDepth 20000 in
theorem c_X11_samples (l : Launch) (E : uE) (a1 : Int32) (σ : uS) (r : Int32) (σr : uS) (h : F_X11_samples a1 σ = some (r, σr)) : CtI l E yX11_samples cX11_samples 3 (some .int) 4 87 [.ref (E.2.1 0), .int a1] σ r σr := by
  refine enterI 1 [some (.ref (E.2.1 0)), some (.int a1), none] (by decide +kernel) rfl (Nat.le_of_ble_eq_true rfl) (fun o K hnL hC hab hR => ?_)
  have hC : Cx E K RX11 cX11_samples (some .int) 4 87 := hC
  have hN : ∀ k, k < 3 → k < K.2.2.2.2.2 := fun k hk => hnL ▸ hk
  delta F_X11_samples at h
  refine g_iload_n (pc := 0) hC dX11_samples_0 rfl ?_
  have hJ26 : J_X11_samples_1 σ = some (r, σr) → Gd l E K 0 0 o σ 26 [none, none, none] [] := by
    intro h
    delta J_X11_samples_1 at h
    refine g_sipush (pc := 26) hC ks_m1000 dX11_samples_26 ?_
    exact g_ret (pc := 29) hC h hR dX11_samples_29
  refine g_if_lt (tgt := 26) (pc := 1) hC dX11_samples_1 (by decide) (fun c1 => ?_) (fun c1 => ?_)
  · replace h := it_t c1 h
    refine g_mask [false, false, false] rfl ?_
    exact hJ26 h
  · replace h := it_f c1 h
    refine g_iload_n (pc := 4) hC dX11_samples_4 rfl ?_
    refine g_aload_n (pc := 5) hC dX11_samples_5 rfl ?_
    refine fg_X11_10_0 (pc := 6) hC dX11_samples_6 ?_
    obtain ⟨v2, hc, h⟩ := cp_e h
    refine g_callVi (pc := 9) (As := []) (rest := [.int a1]) hC (c_X7_tapeSize l E σ v2 hc) mi_X7_tapeSize mv_X7_tapeSize ob_1 rfl rfl lk_X11_93 rfl rfl (Nat.le_of_ble_eq_true rfl) ⟨by decide, by decide⟩ hab dX11_samples_9 ?_
    refine g_icmp_gt (tgt := 26) (pc := 12) hC dX11_samples_12 (by decide) (fun c3 => ?_) (fun c3 => ?_)
    · replace h := it_t c3 h
      refine g_mask [false, false, false] rfl ?_
      exact hJ26 h
    · replace h := it_f c3 h
      refine g_aload_n (pc := 15) hC dX11_samples_15 rfl ?_
      refine fg_X11_10_0 (pc := 16) hC dX11_samples_16 ?_
      refine g_iload_n (pc := 19) hC dX11_samples_19 rfl ?_
      obtain ⟨v4, hc, h⟩ := cp_e h
      refine g_callVi (pc := 20) (As := [.int a1]) (rest := []) hC (c_X7_hasRoom l E a1 σ v4 hc) mi_X7_hasRoom mv_X7_hasRoom ob_1 rfl rfl lk_X11_101 rfl rfl (Nat.le_of_ble_eq_true rfl) ⟨by decide, by decide⟩ hab dX11_samples_20 ?_
      refine g_if_ne (tgt := 30) (pc := 23) hC dX11_samples_23 (by decide) (fun c5 => ?_) (fun c5 => ?_)
      · replace h := it_f c5 h
        refine g_aload_n (pc := 30) hC dX11_samples_30 rfl ?_
        refine fg_X11_10_0 (pc := 31) hC dX11_samples_31 ?_
        obtain ⟨v6, hc, h⟩ := cp_e h
        refine g_callVi (pc := 34) (As := []) (rest := []) hC (c_X7_size l E σ v6 hc) mi_X7_size mv_X7_size ob_1 rfl rfl lk_X11_105 rfl rfl (Nat.le_of_ble_eq_true rfl) ⟨by decide, by decide⟩ hab dX11_samples_34 ?_
        refine g_istore_n (lv2 := [some (.ref (E.2.1 0)), some (.int a1), some (.int v6)]) (pc := 37) hC dX11_samples_37 rfl (Or.inr rfl) (hN _ (by decide)) ?_
        refine g_aload_n (pc := 38) hC dX11_samples_38 rfl ?_
        refine fg_X11_10_0 (pc := 39) hC dX11_samples_39 ?_
        refine g_iload_n (pc := 42) hC dX11_samples_42 rfl ?_
        obtain ⟨σ7, hc, h⟩ := cp_e h
        refine g_callVv (pc := 43) (As := [.int a1]) (rest := []) hC (c_X7_appendFromTape l E a1 σ σ7 hc) mi_X7_appendFromTape mv_X7_appendFromTape ob_1 rfl rfl lk_X11_108 rfl rfl (Nat.le_of_ble_eq_true rfl) ⟨by decide, by decide⟩ hab dX11_samples_43 ?_
        refine g_aload_n (pc := 46) hC dX11_samples_46 rfl ?_
        refine g_iload_n (pc := 47) hC dX11_samples_47 rfl ?_
        refine g_aload_n (pc := 48) hC dX11_samples_48 rfl ?_
        refine fg_X11_10_0 (pc := 49) hC dX11_samples_49 ?_
        obtain ⟨v8, hc, h⟩ := cp_e h
        refine g_callVi (pc := 52) (As := []) (rest := [.int v6, .ref (E.2.1 0)]) hC (c_X7_size l E σ7 v8 hc) mi_X7_size mv_X7_size ob_1 rfl rfl lk_X11_105 rfl rfl (Nat.le_of_ble_eq_true rfl) ⟨by decide, by decide⟩ hab dX11_samples_52 ?_
        obtain ⟨v10, σ9, hc, h⟩ := cl_e h
        refine g_callVi (pc := 55) (As := [.int v6, .int v8]) (rest := []) hC (c_X11_changedFrom l E v6 v8 σ7 v10 σ9 hc) mi_X11_changedFrom mv_X11_changedFrom ob_0 rfl rfl lk_X11_111 rfl rfl (Nat.le_of_ble_eq_true rfl) ⟨by decide, by decide⟩ hab dX11_samples_55 ?_
        exact g_ret (pc := 58) hC h hR dX11_samples_58
      · replace h := it_t c5 h
        refine g_mask [false, false, false] rfl ?_
        exact hJ26 h
set_option maxRecDepth 20000 in
theorem c_X11_isHeight (l : Launch) (E : uE) (a1 : Int32) (σ : uS) (r : Int32) (h : F_X11_isHeight a1 σ = some r) : CtI l E yX11_isHeight cX11_isHeight 1 (some .boolean) 0 0 [.int a1] σ r σ := by
  refine enterI 0 [some (.int a1)] (by decide +kernel) rfl (Nat.le_of_ble_eq_true rfl) (fun o K hnL hC hab hR => ?_)
  have hC : Cx E K RX11 cX11_isHeight (some .boolean) 0 0 := hC
  have hN : ∀ k, k < 1 → k < K.2.2.2.2.2 := fun k hk => hnL ▸ hk
  delta F_X11_isHeight at h
  refine g_iload_n (pc := 0) hC dX11_isHeight_0 rfl ?_
  have hJ15 : ∀ (v3 : Int32), J_X11_isHeight_2 v3 = some r → Gd l E K 0 0 o σ 15 [none] [.int v3] := by
    intro v3 h
    delta J_X11_isHeight_2 at h
    obtain ⟨h01, h⟩ := bz_e h
    exact g_retzp (pc := 15) hC h01 h hR dX11_isHeight_15
  have hJ14 : J_X11_isHeight_1 = some r → Gd l E K 0 0 o σ 14 [none] [] := by
    intro h
    delta J_X11_isHeight_1 at h
    refine g_iconst (pc := 14) hC ki_0 dX11_isHeight_14 ?_
    exact hJ15 0 h
  refine g_if_lt (tgt := 14) (pc := 1) hC dX11_isHeight_1 (by decide) (fun c1 => ?_) (fun c1 => ?_)
  · replace h := it_t c1 h
    refine g_mask [false] rfl ?_
    exact hJ14 h
  · replace h := it_f c1 h
    refine g_iload_n (pc := 4) hC dX11_isHeight_4 rfl ?_
    refine g_bipush (pc := 5) hC kb_127 dX11_isHeight_5 ?_
    refine g_icmp_gt (tgt := 14) (pc := 7) hC dX11_isHeight_7 (by decide) (fun c2 => ?_) (fun c2 => ?_)
    · replace h := it_t c2 h
      refine g_mask [false] rfl ?_
      exact hJ14 h
    · replace h := it_f c2 h
      refine g_iconst (pc := 10) hC ki_1 dX11_isHeight_10 ?_
      refine g_goto (tgt := 15) (pc := 11) hC dX11_isHeight_11 (by decide) ?_
      refine g_mask [false] rfl ?_
      exact hJ15 1 h
set_option maxRecDepth 20000 in
theorem c_X11_cycles (l : Launch) (E : uE) (a1 : Int32) (a2 : Int32) (a3 : Int32) (σ : uS) (r : Int32) (σr : uS) (h : F_X11_cycles a1 a2 a3 σ = some (r, σr)) : CtI l E yX11_cycles cX11_cycles 7 (some .int) 4 87 [.ref (E.2.1 0), .int a1, .int a2, .int a3] σ r σr := by
  refine enterI 3 [some (.ref (E.2.1 0)), some (.int a1), some (.int a2), some (.int a3), none, none, none] (by decide +kernel) rfl (Nat.le_of_ble_eq_true rfl) (fun o K hnL hC hab hR => ?_)
  have hC : Cx E K RX11 cX11_cycles (some .int) 4 87 := hC
  have hN : ∀ k, k < 7 → k < K.2.2.2.2.2 := fun k hk => hnL ▸ hk
  delta F_X11_cycles at h
  refine g_iload_n (pc := 0) hC dX11_cycles_0 rfl ?_
  refine g_iconst (pc := 1) hC ki_2 dX11_cycles_1 ?_
  have hJ42 : J_X11_cycles_7 σ = some (r, σr) → Gd l E K 0 0 o σ 42 [none, none, none, none, none, none, none] [] := by
    intro h
    delta J_X11_cycles_7 at h
    refine g_sipush (pc := 42) hC ks_m1000 dX11_cycles_42 ?_
    exact g_ret (pc := 45) hC h hR dX11_cycles_45
  refine g_icmp_lt (tgt := 42) (pc := 2) hC dX11_cycles_2 (by decide) (fun c1 => ?_) (fun c1 => ?_)
  · replace h := it_t c1 h
    refine g_mask [false, false, false, false, false, false, false] rfl ?_
    exact hJ42 h
  · replace h := it_f c1 h
    refine g_iload_n (pc := 5) hC dX11_cycles_5 rfl ?_
    refine g_bipush (pc := 6) hC kb_48 dX11_cycles_6 ?_
    refine g_icmp_gt (tgt := 42) (pc := 8) hC dX11_cycles_8 (by decide) (fun c2 => ?_) (fun c2 => ?_)
    · replace h := it_t c2 h
      refine g_mask [false, false, false, false, false, false, false] rfl ?_
      exact hJ42 h
    · replace h := it_f c2 h
      refine g_iload_n (pc := 11) hC dX11_cycles_11 rfl ?_
      obtain ⟨v3, hc, h⟩ := cp_e h
      refine g_callSi (pc := 12) (As := [.int a2]) (rest := []) hC (c_X11_isHeight l E a2 σ v3 hc) mi_X11_isHeight ms_X11_isHeight lk_X11_115 rfl rfl (Nat.le_of_ble_eq_true rfl) ⟨by decide, by decide⟩ hab dX11_cycles_12 ?_
      refine g_if_eq (tgt := 42) (pc := 15) hC dX11_cycles_15 (by decide) (fun c4 => ?_) (fun c4 => ?_)
      · replace h := it_t c4 h
        refine g_mask [false, false, false, false, false, false, false] rfl ?_
        exact hJ42 h
      · replace h := it_f c4 h
        refine g_iload_n (pc := 18) hC dX11_cycles_18 rfl ?_
        refine g_iconst (pc := 19) hC ki_1 dX11_cycles_19 ?_
        refine g_icmp_lt (tgt := 42) (pc := 20) hC dX11_cycles_20 (by decide) (fun c5 => ?_) (fun c5 => ?_)
        · replace h := it_t c5 h
          refine g_mask [false, false, false, false, false, false, false] rfl ?_
          exact hJ42 h
        · replace h := it_f c5 h
          refine g_iload_n (pc := 23) hC dX11_cycles_23 rfl ?_
          refine g_bipush (pc := 24) hC kb_50 dX11_cycles_24 ?_
          refine g_icmp_gt (tgt := 42) (pc := 26) hC dX11_cycles_26 (by decide) (fun c6 => ?_) (fun c6 => ?_)
          · replace h := it_t c6 h
            refine g_mask [false, false, false, false, false, false, false] rfl ?_
            exact hJ42 h
          · replace h := it_f c6 h
            refine g_aload_n (pc := 29) hC dX11_cycles_29 rfl ?_
            refine fg_X11_10_0 (pc := 30) hC dX11_cycles_30 ?_
            refine g_iload_n (pc := 33) hC dX11_cycles_33 rfl ?_
            refine g_iload_n (pc := 34) hC dX11_cycles_34 rfl ?_
            refine g_imul (pc := 35) hC dX11_cycles_35 ?_
            obtain ⟨v7, hc, h⟩ := cp_e h
            refine g_callVi (pc := 36) (As := [.int (a1 * a3)]) (rest := []) hC (c_X7_hasRoom l E (a1 * a3) σ v7 hc) mi_X7_hasRoom mv_X7_hasRoom ob_1 rfl rfl lk_X11_101 rfl rfl (Nat.le_of_ble_eq_true rfl) ⟨by decide, by decide⟩ hab dX11_cycles_36 ?_
            refine g_if_ne (tgt := 46) (pc := 39) hC dX11_cycles_39 (by decide) (fun c8 => ?_) (fun c8 => ?_)
            · replace h := it_f c8 h
              refine g_aload_n (pc := 46) hC dX11_cycles_46 rfl ?_
              refine fg_X11_10_0 (pc := 47) hC dX11_cycles_47 ?_
              obtain ⟨v9, hc, h⟩ := cp_e h
              refine g_callVi (pc := 50) (As := []) (rest := []) hC (c_X7_size l E σ v9 hc) mi_X7_size mv_X7_size ob_1 rfl rfl lk_X11_105 rfl rfl (Nat.le_of_ble_eq_true rfl) ⟨by decide, by decide⟩ hab dX11_cycles_50 ?_
              refine g_istore (lv2 := [some (.ref (E.2.1 0)), some (.int a1), some (.int a2), some (.int a3), some (.int v9), none, none]) (pc := 53) hC dX11_cycles_53 rfl (Or.inr rfl) (hN _ (by decide)) ?_
              refine g_iconst (pc := 55) hC ki_0 dX11_cycles_55 ?_
              refine g_istore (lv2 := [some (.ref (E.2.1 0)), some (.int a1), some (.int a2), some (.int a3), some (.int v9), some (.int 0), none]) (pc := 56) hC dX11_cycles_56 rfl (Or.inr rfl) (hN _ (by decide)) ?_
              have hL1 : ∀ (n : Nat) (w10 : Int32) (σ11 : uS) (z1 : uS), iter n (fun z => B_X11_cycles_5 a1 a2 a3 z.1 z.2) (w10, σ11) = some z1 → (∀ (σ12 : uS), z1 = σ12 → Gd l E K 0 0 o σ12 104 [some (.ref (E.2.1 0)), none, none, none, some (.int v9), none, none] []) → Gd l E K 0 0 o σ11 58 [some (.ref (E.2.1 0)), some (.int a1), some (.int a2), some (.int a3), some (.int v9), some (.int w10), none] [] := by
                intro n
                induction n with
                | zero =>
                  intro w10 σ11 z1 hi
                  exact (iter_0 hi).elim
                | succ n ih1 =>
                  intro w10 σ11 z1 hi1 kx1
                  obtain ⟨r1, h, hi1⟩ := iter_s hi1
                  replace h : B_X11_cycles_5 a1 a2 a3 w10 σ11 = some r1 := h
                  delta B_X11_cycles_5 at h
                  refine g_iload (pc := 58) hC dX11_cycles_58 rfl ?_
                  refine g_iload_n (pc := 60) hC dX11_cycles_60 rfl ?_
                  refine g_icmp_ge (tgt := 104) (pc := 61) hC dX11_cycles_61 (by decide) (fun c13 => ?_) (fun c13 => ?_)
                  · replace h := it_t c13 h
                    refine g_mask [true, false, false, false, true, false, false] rfl ?_
                    exact kx1 σ11 (iter_r h hi1)
                  · replace h := it_f c13 h
                    refine g_iconst (pc := 64) hC ki_0 dX11_cycles_64 ?_
                    refine g_istore (lv2 := [some (.ref (E.2.1 0)), some (.int a1), some (.int a2), some (.int a3), some (.int v9), some (.int w10), some (.int 0)]) (pc := 65) hC dX11_cycles_65 rfl (Or.inr rfl) (hN _ (by decide)) ?_
                    have hL2 : ∀ (n : Nat) (w14 : Int32) (σ15 : uS) (z2 : uS), iter n (fun z => B_X11_cycles_3 a1 a2 z.1 z.2) (w14, σ15) = some z2 → (∀ (σ16 : uS), z2 = σ16 → Gd l E K 0 0 o σ16 98 [some (.ref (E.2.1 0)), some (.int a1), some (.int a2), some (.int a3), some (.int v9), some (.int w10), none] []) → Gd l E K 0 0 o σ15 67 [some (.ref (E.2.1 0)), some (.int a1), some (.int a2), some (.int a3), some (.int v9), some (.int w10), some (.int w14)] [] := by
                      intro n
                      induction n with
                      | zero =>
                        intro w14 σ15 z2 hi
                        exact (iter_0 hi).elim
                      | succ n ih2 =>
                        intro w14 σ15 z2 hi2 kx2
                        obtain ⟨r2, h, hi2⟩ := iter_s hi2
                        replace h : B_X11_cycles_3 a1 a2 w14 σ15 = some r2 := h
                        delta B_X11_cycles_3 at h
                        refine g_iload (pc := 67) hC dX11_cycles_67 rfl ?_
                        refine g_iload_n (pc := 69) hC dX11_cycles_69 rfl ?_
                        refine g_icmp_ge (tgt := 98) (pc := 70) hC dX11_cycles_70 (by decide) (fun c17 => ?_) (fun c17 => ?_)
                        · replace h := it_t c17 h
                          refine g_mask [true, true, true, true, true, true, false] rfl ?_
                          exact kx2 σ15 (iter_r h hi2)
                        · replace h := it_f c17 h
                          refine g_aload_n (pc := 73) hC dX11_cycles_73 rfl ?_
                          refine fg_X11_10_0 (pc := 74) hC dX11_cycles_74 ?_
                          refine g_iload_n (pc := 77) hC dX11_cycles_77 rfl ?_
                          refine g_iconst (pc := 78) hC ki_2 dX11_cycles_78 ?_
                          refine g_iload_n (pc := 79) hC dX11_cycles_79 rfl ?_
                          refine g_imul (pc := 80) hC dX11_cycles_80 ?_
                          refine g_iload (pc := 81) hC dX11_cycles_81 rfl ?_
                          refine g_imul (pc := 83) hC dX11_cycles_83 ?_
                          refine g_iload_n (pc := 84) hC dX11_cycles_84 rfl ?_
                          obtain ⟨v18, hc, h⟩ := cp_e h
                          refine g_callSi (pc := 85) (As := [.int ((2 * a2) * w14), .int a1]) (rest := [.int a2, .ref (E.2.1 1)]) hC (c_X11_quotient l E ((2 * a2) * w14) a1 σ15 v18 hc) mi_X11_quotient ms_X11_quotient lk_X11_118 rfl rfl (Nat.le_of_ble_eq_true rfl) ⟨by decide, by decide⟩ hab dX11_cycles_85 ?_
                          refine g_isub (pc := 88) hC dX11_cycles_88 ?_
                          obtain ⟨σ19, hc, h⟩ := cp_e h
                          refine g_callVv (pc := 89) (As := [.int (a2 - v18)]) (rest := []) hC (c_X7_append l E (a2 - v18) σ15 σ19 hc) mi_X7_append mv_X7_append ob_1 rfl rfl lk_X11_121 rfl rfl (Nat.le_of_ble_eq_true rfl) ⟨by decide, by decide⟩ hab dX11_cycles_89 ?_
                          obtain ⟨v20, ev20, h⟩ := lt_e h
                          refine g_iinc (v := v20) (lv2 := [some (.ref (E.2.1 0)), some (.int a1), some (.int a2), some (.int a3), some (.int v9), some (.int w10), some (.int v20)]) (pc := 92) hC dX11_cycles_92 rfl ev20 rfl (Or.inr rfl) (hN _ (by decide)) ?_
                          refine g_goto (tgt := 67) (pc := 95) hC dX11_cycles_95 (by decide) ?_
                          exact ih2 v20 σ19 z2 (iter_l h hi2) kx2
                    obtain ⟨z2, hz2, h⟩ := lp_e h
                    refine hL2 FU 0 σ11 z2 hz2 (fun σ16 ez => ?_)
                    replace h : C_X11_cycles_4 w10 σ16 = some r1 := by rw [ez] at h; exact h
                    delta C_X11_cycles_4 at h
                    obtain ⟨v21, ev21, h⟩ := lt_e h
                    refine g_iinc (v := v21) (lv2 := [some (.ref (E.2.1 0)), some (.int a1), some (.int a2), some (.int a3), some (.int v9), some (.int v21), none]) (pc := 98) hC dX11_cycles_98 rfl ev21 rfl (Or.inr rfl) (hN _ (by decide)) ?_
                    refine g_goto (tgt := 58) (pc := 101) hC dX11_cycles_101 (by decide) ?_
                    exact ih1 v21 σ16 z1 (iter_l h hi1) kx1
              obtain ⟨z1, hz1, h⟩ := lp_e h
              refine hL1 FU 0 σ z1 hz1 (fun σ12 ez => ?_)
              replace h : C_X11_cycles_6 v9 σ12 = some (r, σr) := by rw [ez] at h; exact h
              delta C_X11_cycles_6 at h
              refine g_aload_n (pc := 104) hC dX11_cycles_104 rfl ?_
              refine g_iload (pc := 105) hC dX11_cycles_105 rfl ?_
              refine g_aload_n (pc := 107) hC dX11_cycles_107 rfl ?_
              refine fg_X11_10_0 (pc := 108) hC dX11_cycles_108 ?_
              obtain ⟨v22, hc, h⟩ := cp_e h
              refine g_callVi (pc := 111) (As := []) (rest := [.int v9, .ref (E.2.1 0)]) hC (c_X7_size l E σ12 v22 hc) mi_X7_size mv_X7_size ob_1 rfl rfl lk_X11_105 rfl rfl (Nat.le_of_ble_eq_true rfl) ⟨by decide, by decide⟩ hab dX11_cycles_111 ?_
              obtain ⟨v24, σ23, hc, h⟩ := cl_e h
              refine g_callVi (pc := 114) (As := [.int v9, .int v22]) (rest := []) hC (c_X11_changedFrom l E v9 v22 σ12 v24 σ23 hc) mi_X11_changedFrom mv_X11_changedFrom ob_0 rfl rfl lk_X11_111 rfl rfl (Nat.le_of_ble_eq_true rfl) ⟨by decide, by decide⟩ hab dX11_cycles_114 ?_
              exact g_ret (pc := 117) hC h hR dX11_cycles_117
            · replace h := it_t c8 h
              refine g_mask [false, false, false, false, false, false, false] rfl ?_
              exact hJ42 h
set_option maxRecDepth 20000 in
theorem c_X11_noise (l : Launch) (E : uE) (a1 : Int32) (a2 : Int32) (a3 : Int32) (σ : uS) (r : Int32) (σr : uS) (h : F_X11_noise a1 a2 a3 σ = some (r, σr)) : CtI l E yX11_noise cX11_noise 7 (some .int) 4 87 [.ref (E.2.1 0), .int a1, .int a2, .int a3] σ r σr := by
  refine enterI 3 [some (.ref (E.2.1 0)), some (.int a1), some (.int a2), some (.int a3), none, none, none] (by decide +kernel) rfl (Nat.le_of_ble_eq_true rfl) (fun o K hnL hC hab hR => ?_)
  have hC : Cx E K RX11 cX11_noise (some .int) 4 87 := hC
  have hN : ∀ k, k < 7 → k < K.2.2.2.2.2 := fun k hk => hnL ▸ hk
  delta F_X11_noise at h
  refine g_iload_n (pc := 0) hC dX11_noise_0 rfl ?_
  refine g_iconst (pc := 1) hC ki_1 dX11_noise_1 ?_
  have hJ30 : J_X11_noise_4 σ = some (r, σr) → Gd l E K 0 0 o σ 30 [none, none, none, none, none, none, none] [] := by
    intro h
    delta J_X11_noise_4 at h
    refine g_sipush (pc := 30) hC ks_m1000 dX11_noise_30 ?_
    exact g_ret (pc := 33) hC h hR dX11_noise_33
  refine g_icmp_lt (tgt := 30) (pc := 2) hC dX11_noise_2 (by decide) (fun c1 => ?_) (fun c1 => ?_)
  · replace h := it_t c1 h
    refine g_mask [false, false, false, false, false, false, false] rfl ?_
    exact hJ30 h
  · replace h := it_f c1 h
    refine g_iload_n (pc := 5) hC dX11_noise_5 rfl ?_
    refine g_sipush (pc := 6) hC ks_400 dX11_noise_6 ?_
    refine g_icmp_gt (tgt := 30) (pc := 9) hC dX11_noise_9 (by decide) (fun c2 => ?_) (fun c2 => ?_)
    · replace h := it_t c2 h
      refine g_mask [false, false, false, false, false, false, false] rfl ?_
      exact hJ30 h
    · replace h := it_f c2 h
      refine g_iload_n (pc := 12) hC dX11_noise_12 rfl ?_
      obtain ⟨v3, hc, h⟩ := cp_e h
      refine g_callSi (pc := 13) (As := [.int a3]) (rest := []) hC (c_X11_isHeight l E a3 σ v3 hc) mi_X11_isHeight ms_X11_isHeight lk_X11_115 rfl rfl (Nat.le_of_ble_eq_true rfl) ⟨by decide, by decide⟩ hab dX11_noise_13 ?_
      refine g_if_eq (tgt := 30) (pc := 16) hC dX11_noise_16 (by decide) (fun c4 => ?_) (fun c4 => ?_)
      · replace h := it_t c4 h
        refine g_mask [false, false, false, false, false, false, false] rfl ?_
        exact hJ30 h
      · replace h := it_f c4 h
        refine g_aload_n (pc := 19) hC dX11_noise_19 rfl ?_
        refine fg_X11_10_0 (pc := 20) hC dX11_noise_20 ?_
        refine g_iload_n (pc := 23) hC dX11_noise_23 rfl ?_
        obtain ⟨v5, hc, h⟩ := cp_e h
        refine g_callVi (pc := 24) (As := [.int a2]) (rest := []) hC (c_X7_hasRoom l E a2 σ v5 hc) mi_X7_hasRoom mv_X7_hasRoom ob_1 rfl rfl lk_X11_101 rfl rfl (Nat.le_of_ble_eq_true rfl) ⟨by decide, by decide⟩ hab dX11_noise_24 ?_
        refine g_if_ne (tgt := 34) (pc := 27) hC dX11_noise_27 (by decide) (fun c6 => ?_) (fun c6 => ?_)
        · replace h := it_f c6 h
          refine g_aload_n (pc := 34) hC dX11_noise_34 rfl ?_
          refine fg_X11_10_0 (pc := 35) hC dX11_noise_35 ?_
          obtain ⟨v7, hc, h⟩ := cp_e h
          refine g_callVi (pc := 38) (As := []) (rest := []) hC (c_X7_size l E σ v7 hc) mi_X7_size mv_X7_size ob_1 rfl rfl lk_X11_105 rfl rfl (Nat.le_of_ble_eq_true rfl) ⟨by decide, by decide⟩ hab dX11_noise_38 ?_
          refine g_istore (lv2 := [some (.ref (E.2.1 0)), some (.int a1), some (.int a2), some (.int a3), some (.int v7), none, none]) (pc := 41) hC dX11_noise_41 rfl (Or.inr rfl) (hN _ (by decide)) ?_
          refine g_iload_n (pc := 43) hC dX11_noise_43 rfl ?_
          refine g_istore (lv2 := [some (.ref (E.2.1 0)), some (.int a1), some (.int a2), some (.int a3), some (.int v7), some (.int a1), none]) (pc := 44) hC dX11_noise_44 rfl (Or.inr rfl) (hN _ (by decide)) ?_
          refine g_iconst (pc := 46) hC ki_0 dX11_noise_46 ?_
          refine g_istore (lv2 := [some (.ref (E.2.1 0)), some (.int a1), some (.int a2), some (.int a3), some (.int v7), some (.int a1), some (.int 0)]) (pc := 47) hC dX11_noise_47 rfl (Or.inr rfl) (hN _ (by decide)) ?_
          have hL1 : ∀ (n : Nat) (w8 : Int32) (w9 : Int32) (σ10 : uS) (z1 : uS), iter n (fun z => B_X11_noise_2 a2 a3 z.1 z.2.1 z.2.2) (w8, w9, σ10) = some z1 → (∀ (σ11 : uS), z1 = σ11 → Gd l E K 0 0 o σ11 96 [some (.ref (E.2.1 0)), none, none, none, some (.int v7), none, none] []) → Gd l E K 0 0 o σ10 49 [some (.ref (E.2.1 0)), none, some (.int a2), some (.int a3), some (.int v7), some (.int w8), some (.int w9)] [] := by
            intro n
            induction n with
            | zero =>
              intro w8 w9 σ10 z1 hi
              exact (iter_0 hi).elim
            | succ n ih1 =>
              intro w8 w9 σ10 z1 hi1 kx1
              obtain ⟨r1, h, hi1⟩ := iter_s hi1
              replace h : B_X11_noise_2 a2 a3 w8 w9 σ10 = some r1 := h
              delta B_X11_noise_2 at h
              refine g_iload (pc := 49) hC dX11_noise_49 rfl ?_
              refine g_iload_n (pc := 51) hC dX11_noise_51 rfl ?_
              refine g_icmp_ge (tgt := 96) (pc := 52) hC dX11_noise_52 (by decide) (fun c12 => ?_) (fun c12 => ?_)
              · replace h := it_t c12 h
                refine g_mask [true, false, false, false, true, false, false] rfl ?_
                exact kx1 σ10 (iter_r h hi1)
              · replace h := it_f c12 h
                refine g_iload (pc := 55) hC dX11_noise_55 rfl ?_
                refine g_ldc (pc := 57) hC kc_X11_124 dX11_noise_57 ?_
                refine g_imul (pc := 59) hC dX11_noise_59 ?_
                refine g_sipush (pc := 60) hC ks_12345 dX11_noise_60 ?_
                refine g_iadd (pc := 63) hC dX11_noise_63 ?_
                obtain ⟨v13, ev13, h⟩ := lt_e h
                refine g_top ev13 ?_
                refine g_istore (lv2 := [some (.ref (E.2.1 0)), none, some (.int a2), some (.int a3), some (.int v7), some (.int v13), some (.int w9)]) (pc := 64) hC dX11_noise_64 rfl (Or.inr rfl) (hN _ (by decide)) ?_
                refine g_aload_n (pc := 66) hC dX11_noise_66 rfl ?_
                refine fg_X11_10_0 (pc := 67) hC dX11_noise_67 ?_
                refine g_iload (pc := 70) hC dX11_noise_70 rfl ?_
                refine g_bipush (pc := 72) hC kb_16 dX11_noise_72 ?_
                refine g_iushr (pc := 74) hC dX11_noise_74 ?_
                refine g_sipush (pc := 75) hC ks_32767 dX11_noise_75 ?_
                refine g_iand (pc := 78) hC dX11_noise_78 ?_
                refine g_iconst (pc := 79) hC ki_2 dX11_noise_79 ?_
                refine g_iload_n (pc := 80) hC dX11_noise_80 rfl ?_
                refine g_imul (pc := 81) hC dX11_noise_81 ?_
                refine g_iconst (pc := 82) hC ki_1 dX11_noise_82 ?_
                refine g_iadd (pc := 83) hC dX11_noise_83 ?_
                obtain ⟨v14, ev14, nv14, h⟩ := rmd_e h
                refine g_irem (pc := 84) hC nv14 dX11_noise_84 ?_
                refine g_top ev14 ?_
                refine g_iload_n (pc := 85) hC dX11_noise_85 rfl ?_
                refine g_isub (pc := 86) hC dX11_noise_86 ?_
                obtain ⟨σ15, hc, h⟩ := cp_e h
                refine g_callVv (pc := 87) (As := [.int (v14 - a3)]) (rest := []) hC (c_X7_append l E (v14 - a3) σ10 σ15 hc) mi_X7_append mv_X7_append ob_1 rfl rfl lk_X11_121 rfl rfl (Nat.le_of_ble_eq_true rfl) ⟨by decide, by decide⟩ hab dX11_noise_87 ?_
                obtain ⟨v16, ev16, h⟩ := lt_e h
                refine g_iinc (v := v16) (lv2 := [some (.ref (E.2.1 0)), none, some (.int a2), some (.int a3), some (.int v7), some (.int v13), some (.int v16)]) (pc := 90) hC dX11_noise_90 rfl ev16 rfl (Or.inr rfl) (hN _ (by decide)) ?_
                refine g_goto (tgt := 49) (pc := 93) hC dX11_noise_93 (by decide) ?_
                exact ih1 v13 v16 σ15 z1 (iter_l h hi1) kx1
          obtain ⟨z1, hz1, h⟩ := lp_e h
          refine g_mask [true, false, true, true, true, true, true] rfl ?_
          refine hL1 FU a1 0 σ z1 hz1 (fun σ11 ez => ?_)
          replace h : C_X11_noise_3 v7 σ11 = some (r, σr) := by rw [ez] at h; exact h
          delta C_X11_noise_3 at h
          refine g_aload_n (pc := 96) hC dX11_noise_96 rfl ?_
          refine g_iload (pc := 97) hC dX11_noise_97 rfl ?_
          refine g_aload_n (pc := 99) hC dX11_noise_99 rfl ?_
          refine fg_X11_10_0 (pc := 100) hC dX11_noise_100 ?_
          obtain ⟨v17, hc, h⟩ := cp_e h
          refine g_callVi (pc := 103) (As := []) (rest := [.int v7, .ref (E.2.1 0)]) hC (c_X7_size l E σ11 v17 hc) mi_X7_size mv_X7_size ob_1 rfl rfl lk_X11_105 rfl rfl (Nat.le_of_ble_eq_true rfl) ⟨by decide, by decide⟩ hab dX11_noise_103 ?_
          obtain ⟨v19, σ18, hc, h⟩ := cl_e h
          refine g_callVi (pc := 106) (As := [.int v7, .int v17]) (rest := []) hC (c_X11_changedFrom l E v7 v17 σ11 v19 σ18 hc) mi_X11_changedFrom mv_X11_changedFrom ob_0 rfl rfl lk_X11_111 rfl rfl (Nat.le_of_ble_eq_true rfl) ⟨by decide, by decide⟩ hab dX11_noise_106 ?_
          exact g_ret (pc := 109) hC h hR dX11_noise_109
        · replace h := it_t c6 h
          refine g_mask [false, false, false, false, false, false, false] rfl ?_
          exact hJ30 h
set_option maxRecDepth 20000 in
theorem c_X11_poke (l : Launch) (E : uE) (a1 : Int32) (a2 : Int32) (σ : uS) (r : Int32) (σr : uS) (h : F_X11_poke a1 a2 σ = some (r, σr)) : CtI l E yX11_poke cX11_poke 4 (some .int) 4 87 [.ref (E.2.1 0), .int a1, .int a2] σ r σr := by
  refine enterI 1 [some (.ref (E.2.1 0)), some (.int a1), some (.int a2), none] (by decide +kernel) rfl (Nat.le_of_ble_eq_true rfl) (fun o K hnL hC hab hR => ?_)
  have hC : Cx E K RX11 cX11_poke (some .int) 4 87 := hC
  have hN : ∀ k, k < 4 → k < K.2.2.2.2.2 := fun k hk => hnL ▸ hk
  delta F_X11_poke at h
  refine g_aload_n (pc := 0) hC dX11_poke_0 rfl ?_
  refine fg_X11_10_0 (pc := 1) hC dX11_poke_1 ?_
  refine g_iload_n (pc := 4) hC dX11_poke_4 rfl ?_
  obtain ⟨v1, hc, h⟩ := cp_e h
  refine g_callVi (pc := 5) (As := [.int a1]) (rest := []) hC (c_X7_has l E a1 σ v1 hc) mi_X7_has mv_X7_has ob_1 rfl rfl lk_X11_125 rfl rfl (Nat.le_of_ble_eq_true rfl) ⟨by decide, by decide⟩ hab dX11_poke_5 ?_
  have hJ23 : J_X11_poke_1 σ = some (r, σr) → Gd l E K 0 0 o σ 23 [none, none, none, none] [] := by
    intro h
    delta J_X11_poke_1 at h
    refine g_sipush (pc := 23) hC ks_m1000 dX11_poke_23 ?_
    exact g_ret (pc := 26) hC h hR dX11_poke_26
  refine g_if_eq (tgt := 23) (pc := 8) hC dX11_poke_8 (by decide) (fun c2 => ?_) (fun c2 => ?_)
  · replace h := it_t c2 h
    refine g_mask [false, false, false, false] rfl ?_
    exact hJ23 h
  · replace h := it_f c2 h
    refine g_iload_n (pc := 11) hC dX11_poke_11 rfl ?_
    refine g_bipush (pc := 12) hC kb_m128 dX11_poke_12 ?_
    refine g_icmp_lt (tgt := 23) (pc := 14) hC dX11_poke_14 (by decide) (fun c3 => ?_) (fun c3 => ?_)
    · replace h := it_t c3 h
      refine g_mask [false, false, false, false] rfl ?_
      exact hJ23 h
    · replace h := it_f c3 h
      refine g_iload_n (pc := 17) hC dX11_poke_17 rfl ?_
      refine g_bipush (pc := 18) hC kb_127 dX11_poke_18 ?_
      refine g_icmp_le (tgt := 27) (pc := 20) hC dX11_poke_20 (by decide) (fun c4 => ?_) (fun c4 => ?_)
      · replace h := it_t c4 h
        refine g_aload_n (pc := 27) hC dX11_poke_27 rfl ?_
        refine fg_X11_10_0 (pc := 28) hC dX11_poke_28 ?_
        refine g_iload_n (pc := 31) hC dX11_poke_31 rfl ?_
        obtain ⟨v5, hc, h⟩ := cp_e h
        refine g_callVi (pc := 32) (As := [.int a1]) (rest := []) hC (c_X7_at l E a1 σ v5 hc) mi_X7_at mv_X7_at ob_1 rfl rfl lk_X11_128 rfl rfl (Nat.le_of_ble_eq_true rfl) ⟨by decide, by decide⟩ hab dX11_poke_32 ?_
        refine g_istore_n (lv2 := [some (.ref (E.2.1 0)), some (.int a1), some (.int a2), some (.int v5)]) (pc := 35) hC dX11_poke_35 rfl (Or.inr rfl) (hN _ (by decide)) ?_
        refine g_aload_n (pc := 36) hC dX11_poke_36 rfl ?_
        refine fg_X11_10_0 (pc := 37) hC dX11_poke_37 ?_
        refine g_iload_n (pc := 40) hC dX11_poke_40 rfl ?_
        refine g_iload_n (pc := 41) hC dX11_poke_41 rfl ?_
        obtain ⟨σ6, hc, h⟩ := cp_e h
        refine g_callVv (pc := 42) (As := [.int a1, .int a2]) (rest := []) hC (c_X7_put l E a1 a2 σ σ6 hc) mi_X7_put mv_X7_put ob_1 rfl rfl lk_X11_132 rfl rfl (Nat.le_of_ble_eq_true rfl) ⟨by decide, by decide⟩ hab dX11_poke_42 ?_
        refine g_aload_n (pc := 45) hC dX11_poke_45 rfl ?_
        refine g_iload_n (pc := 46) hC dX11_poke_46 rfl ?_
        refine g_iload_n (pc := 47) hC dX11_poke_47 rfl ?_
        refine g_iconst (pc := 48) hC ki_1 dX11_poke_48 ?_
        refine g_iadd (pc := 49) hC dX11_poke_49 ?_
        obtain ⟨v8, σ7, hc, h⟩ := cl_e h
        refine g_callVi (pc := 50) (As := [.int a1, .int (a1 + 1)]) (rest := []) hC (c_X11_changedFrom l E a1 (a1 + 1) σ6 v8 σ7 hc) mi_X11_changedFrom mv_X11_changedFrom ob_0 rfl rfl lk_X11_111 rfl rfl (Nat.le_of_ble_eq_true rfl) ⟨by decide, by decide⟩ hab dX11_poke_50 ?_
        refine g_pop (pc := 53) hC rfl dX11_poke_53 ?_
        refine g_iload_n (pc := 54) hC dX11_poke_54 rfl ?_
        exact g_ret (pc := 55) hC h hR dX11_poke_55
      · replace h := it_f c4 h
        refine g_mask [false, false, false, false] rfl ?_
        exact hJ23 h
set_option maxRecDepth 20000 in
theorem c_X11_cut (l : Launch) (E : uE) (a1 : Int32) (σ : uS) (r : Int32) (σr : uS) (h : F_X11_cut a1 σ = some (r, σr)) : CtI l E yX11_cut cX11_cut 3 (some .int) 4 87 [.ref (E.2.1 0), .int a1] σ r σr := by
  refine enterI 1 [some (.ref (E.2.1 0)), some (.int a1), none] (by decide +kernel) rfl (Nat.le_of_ble_eq_true rfl) (fun o K hnL hC hab hR => ?_)
  have hC : Cx E K RX11 cX11_cut (some .int) 4 87 := hC
  have hN : ∀ k, k < 3 → k < K.2.2.2.2.2 := fun k hk => hnL ▸ hk
  delta F_X11_cut at h
  refine g_iload_n (pc := 0) hC dX11_cut_0 rfl ?_
  have hJ15 : J_X11_cut_1 σ = some (r, σr) → Gd l E K 0 0 o σ 15 [none, none, none] [] := by
    intro h
    delta J_X11_cut_1 at h
    refine g_sipush (pc := 15) hC ks_m1000 dX11_cut_15 ?_
    exact g_ret (pc := 18) hC h hR dX11_cut_18
  refine g_if_lt (tgt := 15) (pc := 1) hC dX11_cut_1 (by decide) (fun c1 => ?_) (fun c1 => ?_)
  · replace h := it_t c1 h
    refine g_mask [false, false, false] rfl ?_
    exact hJ15 h
  · replace h := it_f c1 h
    refine g_iload_n (pc := 4) hC dX11_cut_4 rfl ?_
    refine g_aload_n (pc := 5) hC dX11_cut_5 rfl ?_
    refine fg_X11_10_0 (pc := 6) hC dX11_cut_6 ?_
    obtain ⟨v2, hc, h⟩ := cp_e h
    refine g_callVi (pc := 9) (As := []) (rest := [.int a1]) hC (c_X7_size l E σ v2 hc) mi_X7_size mv_X7_size ob_1 rfl rfl lk_X11_105 rfl rfl (Nat.le_of_ble_eq_true rfl) ⟨by decide, by decide⟩ hab dX11_cut_9 ?_
    refine g_icmp_le (tgt := 19) (pc := 12) hC dX11_cut_12 (by decide) (fun c3 => ?_) (fun c3 => ?_)
    · replace h := it_t c3 h
      refine g_aload_n (pc := 19) hC dX11_cut_19 rfl ?_
      refine fg_X11_10_0 (pc := 20) hC dX11_cut_20 ?_
      obtain ⟨v4, hc, h⟩ := cp_e h
      refine g_callVi (pc := 23) (As := []) (rest := []) hC (c_X7_size l E σ v4 hc) mi_X7_size mv_X7_size ob_1 rfl rfl lk_X11_105 rfl rfl (Nat.le_of_ble_eq_true rfl) ⟨by decide, by decide⟩ hab dX11_cut_23 ?_
      refine g_istore_n (lv2 := [some (.ref (E.2.1 0)), some (.int a1), some (.int v4)]) (pc := 26) hC dX11_cut_26 rfl (Or.inr rfl) (hN _ (by decide)) ?_
      refine g_aload_n (pc := 27) hC dX11_cut_27 rfl ?_
      refine fg_X11_10_0 (pc := 28) hC dX11_cut_28 ?_
      refine g_iload_n (pc := 31) hC dX11_cut_31 rfl ?_
      obtain ⟨σ5, hc, h⟩ := cp_e h
      refine g_callVv (pc := 32) (As := [.int a1]) (rest := []) hC (c_X7_drop l E a1 σ σ5 hc) mi_X7_drop mv_X7_drop ob_1 rfl rfl lk_X11_136 rfl rfl (Nat.le_of_ble_eq_true rfl) ⟨by decide, by decide⟩ hab dX11_cut_32 ?_
      refine g_aload_n (pc := 35) hC dX11_cut_35 rfl ?_
      refine g_aload_n (pc := 36) hC dX11_cut_36 rfl ?_
      refine fg_X11_10_0 (pc := 37) hC dX11_cut_37 ?_
      obtain ⟨v6, hc, h⟩ := cp_e h
      refine g_callVi (pc := 40) (As := []) (rest := [.ref (E.2.1 0)]) hC (c_X7_size l E σ5 v6 hc) mi_X7_size mv_X7_size ob_1 rfl rfl lk_X11_105 rfl rfl (Nat.le_of_ble_eq_true rfl) ⟨by decide, by decide⟩ hab dX11_cut_40 ?_
      refine g_iload_n (pc := 43) hC dX11_cut_43 rfl ?_
      obtain ⟨v8, σ7, hc, h⟩ := cl_e h
      refine g_callVi (pc := 44) (As := [.int v6, .int v4]) (rest := []) hC (c_X11_changedFrom l E v6 v4 σ5 v8 σ7 hc) mi_X11_changedFrom mv_X11_changedFrom ob_0 rfl rfl lk_X11_111 rfl rfl (Nat.le_of_ble_eq_true rfl) ⟨by decide, by decide⟩ hab dX11_cut_44 ?_
      exact g_ret (pc := 47) hC h hR dX11_cut_47
    · replace h := it_f c3 h
      refine g_mask [false, false, false] rfl ?_
      exact hJ15 h
set_option maxRecDepth 20000 in
theorem c_X11_bound (l : Launch) (E : uE) (a1 : Int32) (a2 : Int32) (σ : uS) (r : Int32) (σr : uS) (h : F_X11_bound a1 a2 σ = some (r, σr)) : CtI l E yX11_bound cX11_bound 4 (some .int) 2 44 [.ref (E.2.1 0), .int a1, .int a2] σ r σr := by
  refine enterI 1 [some (.ref (E.2.1 0)), some (.int a1), some (.int a2), none] (by decide +kernel) rfl (Nat.le_of_ble_eq_true rfl) (fun o K hnL hC hab hR => ?_)
  have hC : Cx E K RX11 cX11_bound (some .int) 2 44 := hC
  have hN : ∀ k, k < 4 → k < K.2.2.2.2.2 := fun k hk => hnL ▸ hk
  delta F_X11_bound at h
  refine g_aload_n (pc := 0) hC dX11_bound_0 rfl ?_
  refine fg_X11_19_0 (pc := 1) hC dX11_bound_1 ?_
  refine g_iload_n (pc := 4) hC dX11_bound_4 rfl ?_
  refine g_iload_n (pc := 5) hC dX11_bound_5 rfl ?_
  obtain ⟨v1, hc, h⟩ := cp_e h
  refine g_callVi (pc := 6) (As := [.int a1, .int a2]) (rest := []) hC (c_X0_allows l E a1 a2 σ v1 hc) mi_X0_allows mv_X0_allows ob_4 rfl rfl lk_X11_143 rfl rfl (Nat.le_of_ble_eq_true rfl) ⟨by decide, by decide⟩ hab dX11_bound_6 ?_
  refine g_if_ne (tgt := 16) (pc := 9) hC dX11_bound_9 (by decide) (fun c2 => ?_) (fun c2 => ?_)
  · replace h := it_f c2 h
    refine g_aload_n (pc := 16) hC dX11_bound_16 rfl ?_
    refine fg_X11_19_0 (pc := 17) hC dX11_bound_17 ?_
    refine g_iload_n (pc := 20) hC dX11_bound_20 rfl ?_
    obtain ⟨v3, hc, h⟩ := cp_e h
    refine g_callVi (pc := 21) (As := [.int a1]) (rest := []) hC (c_X0_of l E a1 σ v3 hc) mi_X0_of mv_X0_of ob_4 rfl rfl lk_X11_147 rfl rfl (Nat.le_of_ble_eq_true rfl) ⟨by decide, by decide⟩ hab dX11_bound_21 ?_
    refine g_istore_n (lv2 := [some (.ref (E.2.1 0)), some (.int a1), some (.int a2), some (.int v3)]) (pc := 24) hC dX11_bound_24 rfl (Or.inr rfl) (hN _ (by decide)) ?_
    refine g_aload_n (pc := 25) hC dX11_bound_25 rfl ?_
    refine fg_X11_19_0 (pc := 26) hC dX11_bound_26 ?_
    refine g_iload_n (pc := 29) hC dX11_bound_29 rfl ?_
    refine g_iload_n (pc := 30) hC dX11_bound_30 rfl ?_
    obtain ⟨σ4, hc, h⟩ := cp_e h
    refine g_callVv (pc := 31) (As := [.int a1, .int a2]) (rest := []) hC (c_X0_put l E a1 a2 σ σ4 hc) mi_X0_put mv_X0_put ob_4 rfl rfl lk_X11_150 rfl rfl (Nat.le_of_ble_eq_true rfl) ⟨by decide, by decide⟩ hab dX11_bound_31 ?_
    refine g_iload_n (pc := 34) hC dX11_bound_34 rfl ?_
    refine g_iconst (pc := 35) hC ki_2 dX11_bound_35 ?_
    have hJ56 : ∀ (σ9 : uS), J_X11_bound_2 v3 σ9 = some (r, σr) → Gd l E K 0 0 o σ9 56 [some (.ref (E.2.1 0)), none, none, some (.int v3)] [] := by
      intro σ9 h
      delta J_X11_bound_2 at h
      refine g_aload_n (pc := 56) hC dX11_bound_56 rfl ?_
      obtain ⟨σ10, hc, h⟩ := cp_e h
      refine g_callVv (pc := 57) (As := []) (rest := []) hC (c_X11_forgetAnswers l E σ9 σ10 hc) mi_X11_forgetAnswers mv_X11_forgetAnswers ob_0 rfl rfl lk_X11_154 rfl rfl (Nat.le_of_ble_eq_true rfl) ⟨by decide, by decide⟩ hab dX11_bound_57 ?_
      refine g_iload_n (pc := 60) hC dX11_bound_60 rfl ?_
      exact g_ret (pc := 61) hC h hR dX11_bound_61
    have hJ49 : J_X11_bound_1 v3 σ4 = some (r, σr) → Gd l E K 0 0 o σ4 49 [some (.ref (E.2.1 0)), none, none, some (.int v3)] [] := by
      intro h
      delta J_X11_bound_1 at h
      refine g_aload_n (pc := 49) hC dX11_bound_49 rfl ?_
      refine fg_X11_28_0 (pc := 50) hC dX11_bound_50 ?_
      obtain ⟨σ8, hc, h⟩ := cp_e h
      refine g_callVv (pc := 53) (As := []) (rest := []) hC (c_X2_forgetAll l E σ4 σ8 hc) mi_X2_forgetAll mv_X2_forgetAll ob_6 rfl rfl lk_X11_151 rfl rfl (Nat.le_of_ble_eq_true rfl) ⟨by decide, by decide⟩ hab dX11_bound_53 ?_
      exact hJ56 σ8 h
    refine g_icmp_eq (tgt := 49) (pc := 36) hC dX11_bound_36 (by decide) (fun c5 => ?_) (fun c5 => ?_)
    · replace h := it_t c5 h
      refine g_mask [true, false, false, true] rfl ?_
      exact hJ49 h
    · replace h := it_f c5 h
      refine g_iload_n (pc := 39) hC dX11_bound_39 rfl ?_
      refine g_iconst (pc := 40) hC ki_3 dX11_bound_40 ?_
      refine g_icmp_eq (tgt := 49) (pc := 41) hC dX11_bound_41 (by decide) (fun c6 => ?_) (fun c6 => ?_)
      · replace h := it_t c6 h
        refine g_mask [true, false, false, true] rfl ?_
        exact hJ49 h
      · replace h := it_f c6 h
        refine g_iload_n (pc := 44) hC dX11_bound_44 rfl ?_
        refine g_iconst (pc := 45) hC ki_5 dX11_bound_45 ?_
        refine g_icmp_ne (tgt := 56) (pc := 46) hC dX11_bound_46 (by decide) (fun c7 => ?_) (fun c7 => ?_)
        · replace h := it_f c7 h
          refine g_mask [true, false, false, true] rfl ?_
          exact hJ56 σ4 h
        · replace h := it_t c7 h
          refine g_mask [true, false, false, true] rfl ?_
          exact hJ49 h
  · replace h := it_t c2 h
    refine g_sipush (pc := 12) hC ks_m1000 dX11_bound_12 ?_
    exact g_ret (pc := 15) hC h hR dX11_bound_15
set_option maxRecDepth 20000 in
theorem c_X11_findPath (l : Launch) (E : uE) (σ : uS) (σr : uS) (h : F_X11_findPath σ = some σr) : CtV l E yX11_findPath cX11_findPath 1 4 94 [.ref (E.2.1 0)] σ σr := by
  refine enterV 0 [some (.ref (E.2.1 0))] (by decide +kernel) rfl (Nat.le_of_ble_eq_true rfl) (fun o K hnL hC hab hR => ?_)
  have hC : Cx E K RX11 cX11_findPath none 4 94 := hC
  have hN : ∀ k, k < 1 → k < K.2.2.2.2.2 := fun k hk => hnL ▸ hk
  delta F_X11_findPath at h
  refine g_aload_n (pc := 0) hC dX11_findPath_0 rfl ?_
  refine fg_X11_359_0 (pc := 1) hC dX11_findPath_1 ?_
  refine g_if_eq (tgt := 8) (pc := 4) hC dX11_findPath_4 (by decide) (fun c1 => ?_) (fun c1 => ?_)
  · replace h := it_t c1 h
    refine g_aload_n (pc := 8) hC dX11_findPath_8 rfl ?_
    refine fg_X11_28_0 (pc := 9) hC dX11_findPath_9 ?_
    obtain ⟨σ2, hc, h⟩ := cp_e h
    refine g_callVv (pc := 12) (As := []) (rest := []) hC (c_X2_find l E σ σ2 hc) mi_X2_find mv_X2_find ob_6 rfl rfl lk_X11_369 rfl rfl (Nat.le_of_ble_eq_true rfl) ⟨by decide, by decide⟩ hab dX11_findPath_12 ?_
    refine g_aload_n (pc := 15) hC dX11_findPath_15 rfl ?_
    refine fg_X11_37_0 (pc := 16) hC dX11_findPath_16 ?_
    obtain ⟨σ3, hc, h⟩ := cp_e h
    refine g_callVv (pc := 19) (As := []) (rest := []) hC (c_X1_find l E σ2 σ3 hc) mi_X1_find mv_X1_find ob_11 rfl rfl lk_X11_372 rfl rfl (Nat.le_of_ble_eq_true rfl) ⟨by decide, by decide⟩ hab dX11_findPath_19 ?_
    refine g_aload_n (pc := 22) hC dX11_findPath_22 rfl ?_
    refine fg_X11_46_0 (pc := 23) hC dX11_findPath_23 ?_
    obtain ⟨σ4, hc, h⟩ := cp_e h
    refine g_callVv (pc := 26) (As := []) (rest := []) hC (c_X5_find l E σ3 σ4 hc) mi_X5_find mv_X5_find ob_16 rfl rfl lk_X11_373 rfl rfl (Nat.le_of_ble_eq_true rfl) ⟨by decide, by decide⟩ hab dX11_findPath_26 ?_
    refine g_aload_n (pc := 29) hC dX11_findPath_29 rfl ?_
    refine fg_X11_62_0 (pc := 30) hC dX11_findPath_30 ?_
    obtain ⟨σ5, hc, h⟩ := cp_e h
    refine g_callVv (pc := 33) (As := []) (rest := []) hC (c_X8_find l E σ4 σ5 hc) mi_X8_find mv_X8_find ob_34 rfl rfl lk_X11_374 rfl rfl (Nat.le_of_ble_eq_true rfl) ⟨by decide, by decide⟩ hab dX11_findPath_33 ?_
    refine g_aload_n (pc := 36) hC dX11_findPath_36 rfl ?_
    refine fg_X11_71_0 (pc := 37) hC dX11_findPath_37 ?_
    obtain ⟨σ6, hc, h⟩ := cp_e h
    refine g_callVv (pc := 40) (As := []) (rest := []) hC (c_X4_find l E σ5 σ6 hc) mi_X4_find mv_X4_find ob_38 rfl rfl lk_X11_375 rfl rfl (Nat.le_of_ble_eq_true rfl) ⟨by decide, by decide⟩ hab dX11_findPath_40 ?_
    refine g_aload_n (pc := 43) hC dX11_findPath_43 rfl ?_
    refine g_iconst (pc := 44) hC ki_1 dX11_findPath_44 ?_
    obtain ⟨σ7, eσ7, h⟩ := pf_e h
    refine fp_X11_359_0 (pc := 45) hC (Or.inr rfl) dX11_findPath_45 eσ7 ?_
    exact g_retv (pc := 48) hC h hR dX11_findPath_48
  · replace h := it_f c1 h
    exact g_retv (pc := 7) hC h hR dX11_findPath_7
set_option maxRecDepth 20000 in
theorem c_X11_single (l : Launch) (E : uE) (σ : uS) (r : Int32) (σr : uS) (h : F_X11_single σ = some (r, σr)) : CtI l E yX11_single cX11_single 1 (some .int) 5 114 [.ref (E.2.1 0)] σ r σr := by
  refine enterI 0 [some (.ref (E.2.1 0))] (by decide +kernel) rfl (Nat.le_of_ble_eq_true rfl) (fun o K hnL hC hab hR => ?_)
  have hC : Cx E K RX11 cX11_single (some .int) 5 114 := hC
  have hN : ∀ k, k < 1 → k < K.2.2.2.2.2 := fun k hk => hnL ▸ hk
  delta F_X11_single at h
  refine g_aload_n (pc := 0) hC dX11_single_0 rfl ?_
  obtain ⟨σ1, hc, h⟩ := cp_e h
  refine g_callVv (pc := 1) (As := []) (rest := []) hC (c_X11_findPath l E σ σ1 hc) mi_X11_findPath mv_X11_findPath ob_0 rfl rfl lk_X11_175 rfl rfl (Nat.le_of_ble_eq_true rfl) ⟨by decide, by decide⟩ hab dX11_single_1 ?_
  refine g_aload_n (pc := 4) hC dX11_single_4 rfl ?_
  refine fg_X11_46_0 (pc := 5) hC dX11_single_5 ?_
  obtain ⟨v3, σ2, hc, h⟩ := cl_e h
  refine g_callVi (pc := 8) (As := []) (rest := []) hC (c_X5_leastWithoutDoubles l E σ1 v3 σ2 hc) mi_X5_leastWithoutDoubles mv_X5_leastWithoutDoubles ob_16 rfl rfl lk_X11_218 rfl rfl (Nat.le_of_ble_eq_true rfl) ⟨by decide, by decide⟩ hab dX11_single_8 ?_
  exact g_ret (pc := 11) hC h hR dX11_single_11
set_option maxRecDepth 20000 in
theorem c_X11_doubled (l : Launch) (E : uE) (σ : uS) (r : Int32) (σr : uS) (h : F_X11_doubled σ = some (r, σr)) : CtI l E yX11_doubled cX11_doubled 1 (some .int) 5 114 [.ref (E.2.1 0)] σ r σr := by
  refine enterI 0 [some (.ref (E.2.1 0))] (by decide +kernel) rfl (Nat.le_of_ble_eq_true rfl) (fun o K hnL hC hab hR => ?_)
  have hC : Cx E K RX11 cX11_doubled (some .int) 5 114 := hC
  have hN : ∀ k, k < 1 → k < K.2.2.2.2.2 := fun k hk => hnL ▸ hk
  delta F_X11_doubled at h
  refine g_aload_n (pc := 0) hC dX11_doubled_0 rfl ?_
  obtain ⟨σ1, hc, h⟩ := cp_e h
  refine g_callVv (pc := 1) (As := []) (rest := []) hC (c_X11_findPath l E σ σ1 hc) mi_X11_findPath mv_X11_findPath ob_0 rfl rfl lk_X11_175 rfl rfl (Nat.le_of_ble_eq_true rfl) ⟨by decide, by decide⟩ hab dX11_doubled_1 ?_
  refine g_aload_n (pc := 4) hC dX11_doubled_4 rfl ?_
  refine fg_X11_46_0 (pc := 5) hC dX11_doubled_5 ?_
  obtain ⟨v2, hc, h⟩ := cp_e h
  refine g_callVi (pc := 8) (As := []) (rest := []) hC (c_X5_doublesChosen l E σ1 v2 hc) mi_X5_doublesChosen mv_X5_doublesChosen ob_16 rfl rfl lk_X11_233 rfl rfl (Nat.le_of_ble_eq_true rfl) ⟨by decide, by decide⟩ hab dX11_doubled_8 ?_
  exact g_ret (pc := 11) hC h hR dX11_doubled_11
set_option maxRecDepth 20000 in
theorem c_X11_spans (l : Launch) (E : uE) (σ : uS) (r : Int32) (σr : uS) (h : F_X11_spans σ = some (r, σr)) : CtI l E yX11_spans cX11_spans 1 (some .int) 5 114 [.ref (E.2.1 0)] σ r σr := by
  refine enterI 0 [some (.ref (E.2.1 0))] (by decide +kernel) rfl (Nat.le_of_ble_eq_true rfl) (fun o K hnL hC hab hR => ?_)
  have hC : Cx E K RX11 cX11_spans (some .int) 5 114 := hC
  have hN : ∀ k, k < 1 → k < K.2.2.2.2.2 := fun k hk => hnL ▸ hk
  delta F_X11_spans at h
  refine g_aload_n (pc := 0) hC dX11_spans_0 rfl ?_
  obtain ⟨σ1, hc, h⟩ := cp_e h
  refine g_callVv (pc := 1) (As := []) (rest := []) hC (c_X11_findPath l E σ σ1 hc) mi_X11_findPath mv_X11_findPath ob_0 rfl rfl lk_X11_175 rfl rfl (Nat.le_of_ble_eq_true rfl) ⟨by decide, by decide⟩ hab dX11_spans_1 ?_
  refine g_aload_n (pc := 4) hC dX11_spans_4 rfl ?_
  refine fg_X11_62_0 (pc := 5) hC dX11_spans_5 ?_
  obtain ⟨v2, hc, h⟩ := cp_e h
  refine g_callVi (pc := 8) (As := []) (rest := []) hC (c_X8_size l E σ1 v2 hc) mi_X8_size mv_X8_size ob_34 rfl rfl lk_X11_236 rfl rfl (Nat.le_of_ble_eq_true rfl) ⟨by decide, by decide⟩ hab dX11_spans_8 ?_
  exact g_ret (pc := 11) hC h hR dX11_spans_11
set_option maxRecDepth 20000 in
theorem c_X11_notes (l : Launch) (E : uE) (σ : uS) (r : Int32) (σr : uS) (h : F_X11_notes σ = some (r, σr)) : CtI l E yX11_notes cX11_notes 1 (some .int) 5 114 [.ref (E.2.1 0)] σ r σr := by
  refine enterI 0 [some (.ref (E.2.1 0))] (by decide +kernel) rfl (Nat.le_of_ble_eq_true rfl) (fun o K hnL hC hab hR => ?_)
  have hC : Cx E K RX11 cX11_notes (some .int) 5 114 := hC
  have hN : ∀ k, k < 1 → k < K.2.2.2.2.2 := fun k hk => hnL ▸ hk
  delta F_X11_notes at h
  refine g_aload_n (pc := 0) hC dX11_notes_0 rfl ?_
  obtain ⟨σ1, hc, h⟩ := cp_e h
  refine g_callVv (pc := 1) (As := []) (rest := []) hC (c_X11_findPath l E σ σ1 hc) mi_X11_findPath mv_X11_findPath ob_0 rfl rfl lk_X11_175 rfl rfl (Nat.le_of_ble_eq_true rfl) ⟨by decide, by decide⟩ hab dX11_notes_1 ?_
  refine g_aload_n (pc := 4) hC dX11_notes_4 rfl ?_
  refine fg_X11_71_0 (pc := 5) hC dX11_notes_5 ?_
  obtain ⟨v2, hc, h⟩ := cp_e h
  refine g_callVi (pc := 8) (As := []) (rest := []) hC (c_X4_size l E σ1 v2 hc) mi_X4_size mv_X4_size ob_38 rfl rfl lk_X11_262 rfl rfl (Nat.le_of_ble_eq_true rfl) ⟨by decide, by decide⟩ hab dX11_notes_8 ?_
  exact g_ret (pc := 11) hC h hR dX11_notes_11
set_option maxRecDepth 20000 in
theorem c_X11_lags (l : Launch) (E : uE) (σ : uS) (r : Int32) (σr : uS) (h : F_X11_lags σ = some (r, σr)) : CtI l E yX11_lags cX11_lags 1 (some .int) 5 114 [.ref (E.2.1 0)] σ r σr := by
  refine enterI 0 [some (.ref (E.2.1 0))] (by decide +kernel) rfl (Nat.le_of_ble_eq_true rfl) (fun o K hnL hC hab hR => ?_)
  have hC : Cx E K RX11 cX11_lags (some .int) 5 114 := hC
  have hN : ∀ k, k < 1 → k < K.2.2.2.2.2 := fun k hk => hnL ▸ hk
  delta F_X11_lags at h
  refine g_aload_n (pc := 0) hC dX11_lags_0 rfl ?_
  obtain ⟨σ1, hc, h⟩ := cp_e h
  refine g_callVv (pc := 1) (As := []) (rest := []) hC (c_X11_findPath l E σ σ1 hc) mi_X11_findPath mv_X11_findPath ob_0 rfl rfl lk_X11_175 rfl rfl (Nat.le_of_ble_eq_true rfl) ⟨by decide, by decide⟩ hab dX11_lags_1 ?_
  refine g_aload_n (pc := 4) hC dX11_lags_4 rfl ?_
  refine fg_X11_71_0 (pc := 5) hC dX11_lags_5 ?_
  obtain ⟨v2, hc, h⟩ := cp_e h
  refine g_callVi (pc := 8) (As := []) (rest := []) hC (c_X4_unlikeLags l E σ1 v2 hc) mi_X4_unlikeLags mv_X4_unlikeLags ob_38 rfl rfl lk_X11_277 rfl rfl (Nat.le_of_ble_eq_true rfl) ⟨by decide, by decide⟩ hab dX11_lags_8 ?_
  exact g_ret (pc := 11) hC h hR dX11_lags_11
set_option maxRecDepth 20000 in
theorem c_X11_tune (l : Launch) (E : uE) (a1 : Int32) (σ : uS) (r : Int32) (σr : uS) (h : F_X11_tune a1 σ = some (r, σr)) : CtI l E yX11_tune cX11_tune 2 (some .int) 2 41 [.ref (E.2.1 0), .int a1] σ r σr := by
  refine enterI 0 [some (.ref (E.2.1 0)), some (.int a1)] (by decide +kernel) rfl (Nat.le_of_ble_eq_true rfl) (fun o K hnL hC hab hR => ?_)
  have hC : Cx E K RX11 cX11_tune (some .int) 2 41 := hC
  have hN : ∀ k, k < 2 → k < K.2.2.2.2.2 := fun k hk => hnL ▸ hk
  delta F_X11_tune at h
  refine g_iload_n (pc := 0) hC dX11_tune_0 rfl ?_
  refine g_iconst (pc := 1) hC ki_1 dX11_tune_1 ?_
  have hJ21 : J_X11_tune_1 σ = some (r, σr) → Gd l E K 0 0 o σ 21 [none, none] [] := by
    intro h
    delta J_X11_tune_1 at h
    refine g_sipush (pc := 21) hC ks_m1000 dX11_tune_21 ?_
    exact g_ret (pc := 24) hC h hR dX11_tune_24
  refine g_icmp_lt (tgt := 21) (pc := 2) hC dX11_tune_2 (by decide) (fun c1 => ?_) (fun c1 => ?_)
  · replace h := it_t c1 h
    refine g_mask [false, false] rfl ?_
    exact hJ21 h
  · replace h := it_f c1 h
    refine g_iload_n (pc := 5) hC dX11_tune_5 rfl ?_
    refine g_bipush (pc := 6) hC kb_48 dX11_tune_6 ?_
    refine g_icmp_gt (tgt := 21) (pc := 8) hC dX11_tune_8 (by decide) (fun c2 => ?_) (fun c2 => ?_)
    · replace h := it_t c2 h
      refine g_mask [false, false] rfl ?_
      exact hJ21 h
    · replace h := it_f c2 h
      refine g_aload_n (pc := 11) hC dX11_tune_11 rfl ?_
      refine fg_X11_89_0 (pc := 12) hC dX11_tune_12 ?_
      obtain ⟨v3, hc, h⟩ := cp_e h
      refine g_callVi (pc := 15) (As := []) (rest := []) hC (c_X10_hasRoom l E σ v3 hc) mi_X10_hasRoom mv_X10_hasRoom ob_51 rfl rfl lk_X11_292 rfl rfl (Nat.le_of_ble_eq_true rfl) ⟨by decide, by decide⟩ hab dX11_tune_15 ?_
      refine g_if_ne (tgt := 25) (pc := 18) hC dX11_tune_18 (by decide) (fun c4 => ?_) (fun c4 => ?_)
      · replace h := it_f c4 h
        refine g_aload_n (pc := 25) hC dX11_tune_25 rfl ?_
        refine fg_X11_89_0 (pc := 26) hC dX11_tune_26 ?_
        refine g_iload_n (pc := 29) hC dX11_tune_29 rfl ?_
        obtain ⟨σ5, hc, h⟩ := cp_e h
        refine g_callVv (pc := 30) (As := [.int a1]) (rest := []) hC (c_X10_add l E a1 σ σ5 hc) mi_X10_add mv_X10_add ob_51 rfl rfl lk_X11_295 rfl rfl (Nat.le_of_ble_eq_true rfl) ⟨by decide, by decide⟩ hab dX11_tune_30 ?_
        refine g_aload_n (pc := 33) hC dX11_tune_33 rfl ?_
        refine fg_X11_89_0 (pc := 34) hC dX11_tune_34 ?_
        obtain ⟨v6, hc, h⟩ := cp_e h
        refine g_callVi (pc := 37) (As := []) (rest := []) hC (c_X10_size l E σ5 v6 hc) mi_X10_size mv_X10_size ob_51 rfl rfl lk_X11_158 rfl rfl (Nat.le_of_ble_eq_true rfl) ⟨by decide, by decide⟩ hab dX11_tune_37 ?_
        exact g_ret (pc := 40) hC h hR dX11_tune_40
      · replace h := it_t c4 h
        refine g_mask [false, false] rfl ?_
        exact hJ21 h
set_option maxRecDepth 20000 in
theorem c_X11_hush (l : Launch) (E : uE) (σ : uS) (r : Int32) (σr : uS) (h : F_X11_hush σ = some (r, σr)) : CtI l E yX11_hush cX11_hush 2 (some .int) 1 20 [.ref (E.2.1 0)] σ r σr := by
  refine enterI 1 [some (.ref (E.2.1 0)), none] (by decide +kernel) rfl (Nat.le_of_ble_eq_true rfl) (fun o K hnL hC hab hR => ?_)
  have hC : Cx E K RX11 cX11_hush (some .int) 1 20 := hC
  have hN : ∀ k, k < 2 → k < K.2.2.2.2.2 := fun k hk => hnL ▸ hk
  delta F_X11_hush at h
  refine g_aload_n (pc := 0) hC dX11_hush_0 rfl ?_
  refine fg_X11_89_0 (pc := 1) hC dX11_hush_1 ?_
  obtain ⟨v1, hc, h⟩ := cp_e h
  refine g_callVi (pc := 4) (As := []) (rest := []) hC (c_X10_size l E σ v1 hc) mi_X10_size mv_X10_size ob_51 rfl rfl lk_X11_158 rfl rfl (Nat.le_of_ble_eq_true rfl) ⟨by decide, by decide⟩ hab dX11_hush_4 ?_
  refine g_istore_n (lv2 := [some (.ref (E.2.1 0)), some (.int v1)]) (pc := 7) hC dX11_hush_7 rfl (Or.inr rfl) (hN _ (by decide)) ?_
  refine g_aload_n (pc := 8) hC dX11_hush_8 rfl ?_
  refine fg_X11_89_0 (pc := 9) hC dX11_hush_9 ?_
  obtain ⟨σ2, hc, h⟩ := cp_e h
  refine g_callVv (pc := 12) (As := []) (rest := []) hC (c_X10_clear l E σ σ2 hc) mi_X10_clear mv_X10_clear ob_51 rfl rfl lk_X11_298 rfl rfl (Nat.le_of_ble_eq_true rfl) ⟨by decide, by decide⟩ hab dX11_hush_12 ?_
  refine g_iload_n (pc := 15) hC dX11_hush_15 rfl ?_
  exact g_ret (pc := 16) hC h hR dX11_hush_16
set_option maxRecDepth 20000 in
theorem c_X11_findMarks (l : Launch) (E : uE) (σ : uS) (σr : uS) (h : F_X11_findMarks σ = some σr) : CtV l E yX11_findMarks cX11_findMarks 1 5 114 [.ref (E.2.1 0)] σ σr := by
  refine enterV 0 [some (.ref (E.2.1 0))] (by decide +kernel) rfl (Nat.le_of_ble_eq_true rfl) (fun o K hnL hC hab hR => ?_)
  have hC : Cx E K RX11 cX11_findMarks none 5 114 := hC
  have hN : ∀ k, k < 1 → k < K.2.2.2.2.2 := fun k hk => hnL ▸ hk
  delta F_X11_findMarks at h
  refine g_aload_n (pc := 0) hC dX11_findMarks_0 rfl ?_
  obtain ⟨σ1, hc, h⟩ := cp_e h
  refine g_callVv (pc := 1) (As := []) (rest := []) hC (c_X11_findPath l E σ σ1 hc) mi_X11_findPath mv_X11_findPath ob_0 rfl rfl lk_X11_175 rfl rfl (Nat.le_of_ble_eq_true rfl) ⟨by decide, by decide⟩ hab dX11_findMarks_1 ?_
  refine g_aload_n (pc := 4) hC dX11_findMarks_4 rfl ?_
  refine fg_X11_366_0 (pc := 5) hC dX11_findMarks_5 ?_
  have hJ23 : ∀ (σ5 : uS), J_X11_findMarks_1 σ5 = some σr → Gd l E K 0 0 o σ5 23 [none] [] := by
    intro σ5 h
    delta J_X11_findMarks_1 at h
    exact g_retv (pc := 23) hC h hR dX11_findMarks_23
  refine g_if_ne (tgt := 23) (pc := 8) hC dX11_findMarks_8 (by decide) (fun c2 => ?_) (fun c2 => ?_)
  · replace h := it_f c2 h
    refine g_mask [false] rfl ?_
    exact hJ23 σ1 h
  · replace h := it_t c2 h
    refine g_aload_n (pc := 11) hC dX11_findMarks_11 rfl ?_
    refine fg_X11_80_0 (pc := 12) hC dX11_findMarks_12 ?_
    obtain ⟨σ3, hc, h⟩ := cp_e h
    refine g_callVv (pc := 15) (As := []) (rest := []) hC (c_X3_find l E σ1 σ3 hc) mi_X3_find mv_X3_find ob_44 rfl rfl lk_X11_377 rfl rfl (Nat.le_of_ble_eq_true rfl) ⟨by decide, by decide⟩ hab dX11_findMarks_15 ?_
    refine g_aload_n (pc := 18) hC dX11_findMarks_18 rfl ?_
    refine g_iconst (pc := 19) hC ki_1 dX11_findMarks_19 ?_
    obtain ⟨σ4, eσ4, h⟩ := pf_e h
    refine fp_X11_366_0 (pc := 20) hC (Or.inr rfl) dX11_findMarks_20 eσ4 ?_
    refine g_mask [false] rfl ?_
    exact hJ23 σ4 h
set_option maxRecDepth 20000 in
theorem c_X11_marks (l : Launch) (E : uE) (σ : uS) (r : Int32) (σr : uS) (h : F_X11_marks σ = some (r, σr)) : CtI l E yX11_marks cX11_marks 1 (some .int) 6 134 [.ref (E.2.1 0)] σ r σr := by
  refine enterI 0 [some (.ref (E.2.1 0))] (by decide +kernel) rfl (Nat.le_of_ble_eq_true rfl) (fun o K hnL hC hab hR => ?_)
  have hC : Cx E K RX11 cX11_marks (some .int) 6 134 := hC
  have hN : ∀ k, k < 1 → k < K.2.2.2.2.2 := fun k hk => hnL ▸ hk
  delta F_X11_marks at h
  refine g_aload_n (pc := 0) hC dX11_marks_0 rfl ?_
  obtain ⟨σ1, hc, h⟩ := cp_e h
  refine g_callVv (pc := 1) (As := []) (rest := []) hC (c_X11_findMarks l E σ σ1 hc) mi_X11_findMarks mv_X11_findMarks ob_0 rfl rfl lk_X11_253 rfl rfl (Nat.le_of_ble_eq_true rfl) ⟨by decide, by decide⟩ hab dX11_marks_1 ?_
  refine g_aload_n (pc := 4) hC dX11_marks_4 rfl ?_
  refine fg_X11_80_0 (pc := 5) hC dX11_marks_5 ?_
  obtain ⟨v2, hc, h⟩ := cp_e h
  refine g_callVi (pc := 8) (As := []) (rest := []) hC (c_X3_size l E σ1 v2 hc) mi_X3_size mv_X3_size ob_44 rfl rfl lk_X11_313 rfl rfl (Nat.le_of_ble_eq_true rfl) ⟨by decide, by decide⟩ hab dX11_marks_8 ?_
  exact g_ret (pc := 11) hC h hR dX11_marks_11
set_option maxRecDepth 20000 in
theorem c_X11_near (l : Launch) (E : uE) (a1 : Int32) (σ : uS) (r : Int32) (σr : uS) (h : F_X11_near a1 σ = some (r, σr)) : CtI l E yX11_near cX11_near 3 (some .int) 6 134 [.ref (E.2.1 0), .int a1] σ r σr := by
  refine enterI 1 [some (.ref (E.2.1 0)), some (.int a1), none] (by decide +kernel) rfl (Nat.le_of_ble_eq_true rfl) (fun o K hnL hC hab hR => ?_)
  have hC : Cx E K RX11 cX11_near (some .int) 6 134 := hC
  have hN : ∀ k, k < 3 → k < K.2.2.2.2.2 := fun k hk => hnL ▸ hk
  delta F_X11_near at h
  refine g_aload_n (pc := 0) hC dX11_near_0 rfl ?_
  obtain ⟨σ1, hc, h⟩ := cp_e h
  refine g_callVv (pc := 1) (As := []) (rest := []) hC (c_X11_findMarks l E σ σ1 hc) mi_X11_findMarks mv_X11_findMarks ob_0 rfl rfl lk_X11_253 rfl rfl (Nat.le_of_ble_eq_true rfl) ⟨by decide, by decide⟩ hab dX11_near_1 ?_
  refine g_aload_n (pc := 4) hC dX11_near_4 rfl ?_
  refine fg_X11_80_0 (pc := 5) hC dX11_near_5 ?_
  refine g_iload_n (pc := 8) hC dX11_near_8 rfl ?_
  refine g_iconst (pc := 9) hC ki_0 dX11_near_9 ?_
  refine g_aload_n (pc := 10) hC dX11_near_10 rfl ?_
  refine fg_X11_80_0 (pc := 11) hC dX11_near_11 ?_
  obtain ⟨v2, hc, h⟩ := cp_e h
  refine g_callVi (pc := 14) (As := []) (rest := [.int 0, .int a1, .ref (E.2.1 44)]) hC (c_X3_size l E σ1 v2 hc) mi_X3_size mv_X3_size ob_44 rfl rfl lk_X11_313 rfl rfl (Nat.le_of_ble_eq_true rfl) ⟨by decide, by decide⟩ hab dX11_near_14 ?_
  obtain ⟨v3, hc, h⟩ := cp_e h
  refine g_callVi (pc := 17) (As := [.int a1, .int 0, .int v2]) (rest := []) hC (c_X3_nearest l E a1 0 v2 σ1 v3 hc) mi_X3_nearest mv_X3_nearest ob_44 rfl rfl lk_X11_316 rfl rfl (Nat.le_of_ble_eq_true rfl) ⟨by decide, by decide⟩ hab dX11_near_17 ?_
  refine g_istore_n (lv2 := [some (.ref (E.2.1 0)), some (.int a1), some (.int v3)]) (pc := 20) hC dX11_near_20 rfl (Or.inr rfl) (hN _ (by decide)) ?_
  refine g_iload_n (pc := 21) hC dX11_near_21 rfl ?_
  refine g_iconst (pc := 22) hC ki_m1 dX11_near_22 ?_
  have hJ38 : ∀ (v6 : Int32), J_X11_near_1 σ1 v6 = some (r, σr) → Gd l E K 0 0 o σ1 38 [none, none, none] [.int v6] := by
    intro v6 h
    delta J_X11_near_1 at h
    exact g_ret (pc := 38) hC h hR dX11_near_38
  refine g_icmp_ne (tgt := 30) (pc := 23) hC dX11_near_23 (by decide) (fun c4 => ?_) (fun c4 => ?_)
  · replace h := it_f c4 h
    refine g_aload_n (pc := 30) hC dX11_near_30 rfl ?_
    refine fg_X11_80_0 (pc := 31) hC dX11_near_31 ?_
    refine g_iload_n (pc := 34) hC dX11_near_34 rfl ?_
    obtain ⟨v5, hc, h⟩ := cp_e h
    refine g_callVi (pc := 35) (As := [.int v3]) (rest := []) hC (c_X3_at l E v3 σ1 v5 hc) mi_X3_at mv_X3_at ob_44 rfl rfl lk_X11_315 rfl rfl (Nat.le_of_ble_eq_true rfl) ⟨by decide, by decide⟩ hab dX11_near_35 ?_
    refine g_mask [false, false, false] rfl ?_
    exact hJ38 v5 h
  · replace h := it_t c4 h
    refine g_iconst (pc := 26) hC ki_m1 dX11_near_26 ?_
    refine g_goto (tgt := 38) (pc := 27) hC dX11_near_27 (by decide) ?_
    refine g_mask [false, false, false] rfl ?_
    exact hJ38 (-1) h
set_option maxRecDepth 20000 in
theorem c_X11_behind (l : Launch) (E : uE) (a1 : Int32) (σ : uS) (r : Int32) (σr : uS) (h : F_X11_behind a1 σ = some (r, σr)) : CtI l E yX11_behind cX11_behind 3 (some .int) 6 134 [.ref (E.2.1 0), .int a1] σ r σr := by
  refine enterI 1 [some (.ref (E.2.1 0)), some (.int a1), none] (by decide +kernel) rfl (Nat.le_of_ble_eq_true rfl) (fun o K hnL hC hab hR => ?_)
  have hC : Cx E K RX11 cX11_behind (some .int) 6 134 := hC
  have hN : ∀ k, k < 3 → k < K.2.2.2.2.2 := fun k hk => hnL ▸ hk
  delta F_X11_behind at h
  refine g_aload_n (pc := 0) hC dX11_behind_0 rfl ?_
  obtain ⟨σ1, hc, h⟩ := cp_e h
  refine g_callVv (pc := 1) (As := []) (rest := []) hC (c_X11_findMarks l E σ σ1 hc) mi_X11_findMarks mv_X11_findMarks ob_0 rfl rfl lk_X11_253 rfl rfl (Nat.le_of_ble_eq_true rfl) ⟨by decide, by decide⟩ hab dX11_behind_1 ?_
  refine g_iconst (pc := 4) hC ki_0 dX11_behind_4 ?_
  refine g_istore_n (lv2 := [some (.ref (E.2.1 0)), some (.int a1), some (.int 0)]) (pc := 5) hC dX11_behind_5 rfl (Or.inr rfl) (hN _ (by decide)) ?_
  have hL1 : ∀ (n : Nat) (w2 : Int32) (z1 : (Unit) ⊕ (Int32 × uS)), iter n (fun z => B_X11_behind_2 a1 σ1 z) w2 = some z1 → (z1 = .inl () → Gd l E K 0 0 o σ1 44 [none, none, none] []) → (∀ q, z1 = .inr q → some q = some (r, σr)) → Gd l E K 0 0 o σ1 6 [some (.ref (E.2.1 0)), some (.int a1), some (.int w2)] [] := by
    intro n
    induction n with
    | zero =>
      intro w2 z1 hi
      exact (iter_0 hi).elim
    | succ n ih1 =>
      intro w2 z1 hi1 kx1 kr1
      obtain ⟨r1, h, hi1⟩ := iter_s hi1
      replace h : B_X11_behind_2 a1 σ1 w2 = some r1 := h
      delta B_X11_behind_2 at h
      refine g_iload_n (pc := 6) hC dX11_behind_6 rfl ?_
      refine g_aload_n (pc := 7) hC dX11_behind_7 rfl ?_
      refine fg_X11_80_0 (pc := 8) hC dX11_behind_8 ?_
      obtain ⟨v3, hc, h⟩ := cp_e h
      refine g_callVi (pc := 11) (As := []) (rest := [.int w2]) hC (c_X3_size l E σ1 v3 hc) mi_X3_size mv_X3_size ob_44 rfl rfl lk_X11_313 rfl rfl (Nat.le_of_ble_eq_true rfl) ⟨by decide, by decide⟩ hab dX11_behind_11 ?_
      refine g_icmp_ge (tgt := 44) (pc := 14) hC dX11_behind_14 (by decide) (fun c4 => ?_) (fun c4 => ?_)
      · replace h := it_t c4 h
        refine g_mask [false, false, false] rfl ?_
        exact kx1 (iter_r h hi1)
      · replace h := it_f c4 h
        refine g_aload_n (pc := 17) hC dX11_behind_17 rfl ?_
        refine fg_X11_80_0 (pc := 18) hC dX11_behind_18 ?_
        refine g_iload_n (pc := 21) hC dX11_behind_21 rfl ?_
        obtain ⟨v5, hc, h⟩ := cp_e h
        refine g_callVi (pc := 22) (As := [.int w2]) (rest := []) hC (c_X3_at l E w2 σ1 v5 hc) mi_X3_at mv_X3_at ob_44 rfl rfl lk_X11_315 rfl rfl (Nat.le_of_ble_eq_true rfl) ⟨by decide, by decide⟩ hab dX11_behind_22 ?_
        refine g_iload_n (pc := 25) hC dX11_behind_25 rfl ?_
        refine g_icmp_le (tgt := 38) (pc := 26) hC dX11_behind_26 (by decide) (fun c6 => ?_) (fun c6 => ?_)
        · replace h := it_t c6 h
          obtain ⟨v7, ev7, h⟩ := lt_e h
          refine g_iinc (v := v7) (lv2 := [some (.ref (E.2.1 0)), some (.int a1), some (.int v7)]) (pc := 38) hC dX11_behind_38 rfl ev7 rfl (Or.inr rfl) (hN _ (by decide)) ?_
          refine g_goto (tgt := 6) (pc := 41) hC dX11_behind_41 (by decide) ?_
          exact ih1 v7 z1 (iter_l h hi1) kx1 kr1
        · replace h := it_f c6 h
          refine g_aload_n (pc := 29) hC dX11_behind_29 rfl ?_
          refine fg_X11_80_0 (pc := 30) hC dX11_behind_30 ?_
          refine g_iload_n (pc := 33) hC dX11_behind_33 rfl ?_
          obtain ⟨v8, hc, h⟩ := cp_e h
          refine g_callVi (pc := 34) (As := [.int w2]) (rest := []) hC (c_X3_at l E w2 σ1 v8 hc) mi_X3_at mv_X3_at ob_44 rfl rfl lk_X11_315 rfl rfl (Nat.le_of_ble_eq_true rfl) ⟨by decide, by decide⟩ hab dX11_behind_34 ?_
          exact g_ret (pc := 37) hC (kr1 _ (iter_r h hi1)) hR dX11_behind_37
  obtain ⟨z1, hz1, h⟩ := lp_e h
  refine hL1 FU 0 z1 hz1 (fun ez => ?_) (fun q ez => by rw [ez] at h; exact h)
  replace h : C_X11_behind_3 σ1 = some (r, σr) := by rw [ez] at h; exact h
  delta C_X11_behind_3 at h
  refine g_iconst (pc := 44) hC ki_m1 dX11_behind_44 ?_
  exact g_ret (pc := 45) hC h hR dX11_behind_45
set_option maxRecDepth 20000 in
theorem c_X11_roughest (l : Launch) (E : uE) (σ : uS) (r : Int32) (σr : uS) (h : F_X11_roughest σ = some (r, σr)) : CtI l E yX11_roughest cX11_roughest 5 (some .int) 6 134 [.ref (E.2.1 0)] σ r σr := by
  refine enterI 4 [some (.ref (E.2.1 0)), none, none, none, none] (by decide +kernel) rfl (Nat.le_of_ble_eq_true rfl) (fun o K hnL hC hab hR => ?_)
  have hC : Cx E K RX11 cX11_roughest (some .int) 6 134 := hC
  have hN : ∀ k, k < 5 → k < K.2.2.2.2.2 := fun k hk => hnL ▸ hk
  delta F_X11_roughest at h
  refine g_aload_n (pc := 0) hC dX11_roughest_0 rfl ?_
  obtain ⟨σ1, hc, h⟩ := cp_e h
  refine g_callVv (pc := 1) (As := []) (rest := []) hC (c_X11_findMarks l E σ σ1 hc) mi_X11_findMarks mv_X11_findMarks ob_0 rfl rfl lk_X11_253 rfl rfl (Nat.le_of_ble_eq_true rfl) ⟨by decide, by decide⟩ hab dX11_roughest_1 ?_
  refine g_iconst (pc := 4) hC ki_m1 dX11_roughest_4 ?_
  refine g_istore_n (lv2 := [some (.ref (E.2.1 0)), some (.int (-1)), none, none, none]) (pc := 5) hC dX11_roughest_5 rfl (Or.inr rfl) (hN _ (by decide)) ?_
  refine g_iconst (pc := 6) hC ki_m1 dX11_roughest_6 ?_
  refine g_istore_n (lv2 := [some (.ref (E.2.1 0)), some (.int (-1)), some (.int (-1)), none, none]) (pc := 7) hC dX11_roughest_7 rfl (Or.inr rfl) (hN _ (by decide)) ?_
  refine g_iconst (pc := 8) hC ki_0 dX11_roughest_8 ?_
  refine g_istore_n (lv2 := [some (.ref (E.2.1 0)), some (.int (-1)), some (.int (-1)), some (.int 0), none]) (pc := 9) hC dX11_roughest_9 rfl (Or.inr rfl) (hN _ (by decide)) ?_
  have hL1 : ∀ (n : Nat) (w2 : Int32) (w3 : Int32) (w4 : Int32) (z1 : Int32), iter n (fun z => B_X11_roughest_3 σ1 z.1 z.2.1 z.2.2) (w2, w3, w4) = some z1 → (∀ (v5 : Int32), z1 = v5 → Gd l E K 0 0 o σ1 48 [none, some (.int v5), none, none, none] []) → Gd l E K 0 0 o σ1 10 [some (.ref (E.2.1 0)), some (.int w2), some (.int w3), some (.int w4), none] [] := by
    intro n
    induction n with
    | zero =>
      intro w2 w3 w4 z1 hi
      exact (iter_0 hi).elim
    | succ n ih1 =>
      intro w2 w3 w4 z1 hi1 kx1
      obtain ⟨r1, h, hi1⟩ := iter_s hi1
      replace h : B_X11_roughest_3 σ1 w2 w3 w4 = some r1 := h
      delta B_X11_roughest_3 at h
      refine g_iload_n (pc := 10) hC dX11_roughest_10 rfl ?_
      refine g_aload_n (pc := 11) hC dX11_roughest_11 rfl ?_
      refine fg_X11_80_0 (pc := 12) hC dX11_roughest_12 ?_
      obtain ⟨v6, hc, h⟩ := cp_e h
      refine g_callVi (pc := 15) (As := []) (rest := [.int w4]) hC (c_X3_size l E σ1 v6 hc) mi_X3_size mv_X3_size ob_44 rfl rfl lk_X11_313 rfl rfl (Nat.le_of_ble_eq_true rfl) ⟨by decide, by decide⟩ hab dX11_roughest_15 ?_
      refine g_icmp_ge (tgt := 48) (pc := 18) hC dX11_roughest_18 (by decide) (fun c7 => ?_) (fun c7 => ?_)
      · replace h := it_t c7 h
        refine g_mask [false, true, false, false, false] rfl ?_
        exact kx1 w2 (iter_r h hi1)
      · replace h := it_f c7 h
        refine g_aload_n (pc := 21) hC dX11_roughest_21 rfl ?_
        refine fg_X11_80_0 (pc := 22) hC dX11_roughest_22 ?_
        refine g_iload_n (pc := 25) hC dX11_roughest_25 rfl ?_
        obtain ⟨v8, hc, h⟩ := cp_e h
        refine g_callVi (pc := 26) (As := [.int w4]) (rest := []) hC (c_X3_roughness l E w4 σ1 v8 hc) mi_X3_roughness mv_X3_roughness ob_44 rfl rfl lk_X11_335 rfl rfl (Nat.le_of_ble_eq_true rfl) ⟨by decide, by decide⟩ hab dX11_roughest_26 ?_
        refine g_istore (lv2 := [some (.ref (E.2.1 0)), some (.int w2), some (.int w3), some (.int w4), some (.int v8)]) (pc := 29) hC dX11_roughest_29 rfl (Or.inr rfl) (hN _ (by decide)) ?_
        refine g_iload (pc := 31) hC dX11_roughest_31 rfl ?_
        refine g_iload_n (pc := 33) hC dX11_roughest_33 rfl ?_
        have hJ42 : ∀ (v10 : Int32) (v11 : Int32), J_X11_roughest_2 w4 v10 v11 = some r1 → Gd l E K 0 0 o σ1 42 [some (.ref (E.2.1 0)), some (.int v10), some (.int v11), some (.int w4), none] [] := by
          intro v10 v11 h
          delta J_X11_roughest_2 at h
          obtain ⟨v12, ev12, h⟩ := lt_e h
          refine g_iinc (v := v12) (lv2 := [some (.ref (E.2.1 0)), some (.int v10), some (.int v11), some (.int v12), none]) (pc := 42) hC dX11_roughest_42 rfl ev12 rfl (Or.inr rfl) (hN _ (by decide)) ?_
          refine g_goto (tgt := 10) (pc := 45) hC dX11_roughest_45 (by decide) ?_
          exact ih1 v10 v11 v12 z1 (iter_l h hi1) kx1
        refine g_icmp_le (tgt := 42) (pc := 34) hC dX11_roughest_34 (by decide) (fun c9 => ?_) (fun c9 => ?_)
        · replace h := it_t c9 h
          refine g_mask [true, true, true, true, false] rfl ?_
          exact hJ42 w2 w3 h
        · replace h := it_f c9 h
          refine g_iload (pc := 37) hC dX11_roughest_37 rfl ?_
          refine g_istore_n (lv2 := [some (.ref (E.2.1 0)), some (.int w2), some (.int v8), some (.int w4), some (.int v8)]) (pc := 39) hC dX11_roughest_39 rfl (Or.inr rfl) (hN _ (by decide)) ?_
          refine g_iload_n (pc := 40) hC dX11_roughest_40 rfl ?_
          refine g_istore_n (lv2 := [some (.ref (E.2.1 0)), some (.int w4), some (.int v8), some (.int w4), some (.int v8)]) (pc := 41) hC dX11_roughest_41 rfl (Or.inr rfl) (hN _ (by decide)) ?_
          refine g_mask [true, true, true, true, false] rfl ?_
          exact hJ42 w4 v8 h
  obtain ⟨z1, hz1, h⟩ := lp_e h
  refine hL1 FU (-1) (-1) 0 z1 hz1 (fun v5 ez => ?_)
  replace h : C_X11_roughest_4 σ1 v5 = some (r, σr) := by rw [ez] at h; exact h
  delta C_X11_roughest_4 at h
  refine g_iload_n (pc := 48) hC dX11_roughest_48 rfl ?_
  exact g_ret (pc := 49) hC h hR dX11_roughest_49
set_option maxRecDepth 20000 in
theorem c_X11_isLag (l : Launch) (E : uE) (a1 : Int32) (σ : uS) (r : Int32) (h : F_X11_isLag a1 σ = some r) : CtI l E yX11_isLag cX11_isLag 2 (some .boolean) 1 21 [.ref (E.2.1 0), .int a1] σ r σ := by
  refine enterI 0 [some (.ref (E.2.1 0)), some (.int a1)] (by decide +kernel) rfl (Nat.le_of_ble_eq_true rfl) (fun o K hnL hC hab hR => ?_)
  have hC : Cx E K RX11 cX11_isLag (some .boolean) 1 21 := hC
  have hN : ∀ k, k < 2 → k < K.2.2.2.2.2 := fun k hk => hnL ▸ hk
  delta F_X11_isLag at h
  refine g_iload_n (pc := 0) hC dX11_isLag_0 rfl ?_
  have hJ23 : ∀ (v4 : Int32), J_X11_isLag_2 v4 = some r → Gd l E K 0 0 o σ 23 [none, none] [.int v4] := by
    intro v4 h
    delta J_X11_isLag_2 at h
    obtain ⟨h01, h⟩ := bz_e h
    exact g_retzp (pc := 23) hC h01 h hR dX11_isLag_23
  have hJ22 : J_X11_isLag_1 = some r → Gd l E K 0 0 o σ 22 [none, none] [] := by
    intro h
    delta J_X11_isLag_1 at h
    refine g_iconst (pc := 22) hC ki_0 dX11_isLag_22 ?_
    exact hJ23 0 h
  refine g_if_lt (tgt := 22) (pc := 1) hC dX11_isLag_1 (by decide) (fun c1 => ?_) (fun c1 => ?_)
  · replace h := it_t c1 h
    refine g_mask [false, false] rfl ?_
    exact hJ22 h
  · replace h := it_f c1 h
    refine g_iload_n (pc := 4) hC dX11_isLag_4 rfl ?_
    refine g_aload_n (pc := 5) hC dX11_isLag_5 rfl ?_
    refine fg_X11_19_0 (pc := 6) hC dX11_isLag_6 ?_
    refine g_iconst (pc := 9) hC ki_5 dX11_isLag_9 ?_
    obtain ⟨v2, hc, h⟩ := cp_e h
    refine g_callVi (pc := 10) (As := [.int 5]) (rest := [.int a1]) hC (c_X0_of l E 5 σ v2 hc) mi_X0_of mv_X0_of ob_4 rfl rfl lk_X11_147 rfl rfl (Nat.le_of_ble_eq_true rfl) ⟨by decide, by decide⟩ hab dX11_isLag_10 ?_
    refine g_iconst (pc := 13) hC ki_1 dX11_isLag_13 ?_
    refine g_iadd (pc := 14) hC dX11_isLag_14 ?_
    refine g_icmp_gt (tgt := 22) (pc := 15) hC dX11_isLag_15 (by decide) (fun c3 => ?_) (fun c3 => ?_)
    · replace h := it_t c3 h
      refine g_mask [false, false] rfl ?_
      exact hJ22 h
    · replace h := it_f c3 h
      refine g_iconst (pc := 18) hC ki_1 dX11_isLag_18 ?_
      refine g_goto (tgt := 23) (pc := 19) hC dX11_isLag_19 (by decide) ?_
      refine g_mask [false, false] rfl ?_
      exact hJ23 1 h
set_option maxRecDepth 20000 in
theorem c_X11_findRanking (l : Launch) (E : uE) (σ : uS) (σr : uS) (h : F_X11_findRanking σ = some σr) : CtV l E yX11_findRanking cX11_findRanking 1 5 115 [.ref (E.2.1 0)] σ σr := by
  refine enterV 0 [some (.ref (E.2.1 0))] (by decide +kernel) rfl (Nat.le_of_ble_eq_true rfl) (fun o K hnL hC hab hR => ?_)
  have hC : Cx E K RX11 cX11_findRanking none 5 115 := hC
  have hN : ∀ k, k < 1 → k < K.2.2.2.2.2 := fun k hk => hnL ▸ hk
  delta F_X11_findRanking at h
  refine g_aload_n (pc := 0) hC dX11_findRanking_0 rfl ?_
  obtain ⟨σ1, hc, h⟩ := cp_e h
  refine g_callVv (pc := 1) (As := []) (rest := []) hC (c_X11_findPath l E σ σ1 hc) mi_X11_findPath mv_X11_findPath ob_0 rfl rfl lk_X11_175 rfl rfl (Nat.le_of_ble_eq_true rfl) ⟨by decide, by decide⟩ hab dX11_findRanking_1 ?_
  refine g_aload_n (pc := 4) hC dX11_findRanking_4 rfl ?_
  refine fg_X11_363_0 (pc := 5) hC dX11_findRanking_5 ?_
  have hJ23 : ∀ (σ5 : uS), J_X11_findRanking_1 σ5 = some σr → Gd l E K 0 0 o σ5 23 [none] [] := by
    intro σ5 h
    delta J_X11_findRanking_1 at h
    exact g_retv (pc := 23) hC h hR dX11_findRanking_23
  refine g_if_ne (tgt := 23) (pc := 8) hC dX11_findRanking_8 (by decide) (fun c2 => ?_) (fun c2 => ?_)
  · replace h := it_f c2 h
    refine g_mask [false] rfl ?_
    exact hJ23 σ1 h
  · replace h := it_t c2 h
    refine g_aload_n (pc := 11) hC dX11_findRanking_11 rfl ?_
    refine fg_X11_53_0 (pc := 12) hC dX11_findRanking_12 ?_
    obtain ⟨σ3, hc, h⟩ := cp_e h
    refine g_callVv (pc := 15) (As := []) (rest := []) hC (c_X6_find l E σ1 σ3 hc) mi_X6_find mv_X6_find ob_27 rfl rfl lk_X11_376 rfl rfl (Nat.le_of_ble_eq_true rfl) ⟨by decide, by decide⟩ hab dX11_findRanking_15 ?_
    refine g_aload_n (pc := 18) hC dX11_findRanking_18 rfl ?_
    refine g_iconst (pc := 19) hC ki_1 dX11_findRanking_19 ?_
    obtain ⟨σ4, eσ4, h⟩ := pf_e h
    refine fp_X11_363_0 (pc := 20) hC (Or.inr rfl) dX11_findRanking_20 eσ4 ?_
    refine g_mask [false] rfl ?_
    exact hJ23 σ4 h
set_option maxRecDepth 20000 in
theorem c_X11_commonPart (l : Launch) (E : uE) (a1 : Int32) (a2 : Int32) (σ : uS) (r : Int32) (h : F_X11_commonPart a1 a2 σ = some r) : CtI l E yX11_commonPart cX11_commonPart 6 (some .int) 0 0 [.int a1, .int a2] σ r σ := by
  refine enterI 4 [some (.int a1), some (.int a2), none, none, none, none] (by decide +kernel) rfl (Nat.le_of_ble_eq_true rfl) (fun o K hnL hC hab hR => ?_)
  have hC : Cx E K RX11 cX11_commonPart (some .int) 0 0 := hC
  have hN : ∀ k, k < 6 → k < K.2.2.2.2.2 := fun k hk => hnL ▸ hk
  delta F_X11_commonPart at h
  refine g_iload_n (pc := 0) hC dX11_commonPart_0 rfl ?_
  refine g_istore_n (lv2 := [some (.int a1), some (.int a2), some (.int a1), none, none, none]) (pc := 1) hC dX11_commonPart_1 rfl (Or.inr rfl) (hN _ (by decide)) ?_
  refine g_iload_n (pc := 2) hC dX11_commonPart_2 rfl ?_
  refine g_istore_n (lv2 := [some (.int a1), some (.int a2), some (.int a1), some (.int a2), none, none]) (pc := 3) hC dX11_commonPart_3 rfl (Or.inr rfl) (hN _ (by decide)) ?_
  refine g_iconst (pc := 4) hC ki_0 dX11_commonPart_4 ?_
  refine g_istore (lv2 := [some (.int a1), some (.int a2), some (.int a1), some (.int a2), some (.int 0), none]) (pc := 5) hC dX11_commonPart_5 rfl (Or.inr rfl) (hN _ (by decide)) ?_
  have hL1 : ∀ (n : Nat) (w1 : Int32) (w2 : Int32) (w3 : Int32) (z1 : Int32), iter n (fun z => B_X11_commonPart_2 z.1 z.2.1 z.2.2) (w1, w2, w3) = some z1 → (∀ (v4 : Int32), z1 = v4 → Gd l E K 0 0 o σ 34 [none, none, some (.int v4), none, none, none] []) → Gd l E K 0 0 o σ 7 [none, none, some (.int w1), some (.int w2), some (.int w3), none] [] := by
    intro n
    induction n with
    | zero =>
      intro w1 w2 w3 z1 hi
      exact (iter_0 hi).elim
    | succ n ih1 =>
      intro w1 w2 w3 z1 hi1 kx1
      obtain ⟨r1, h, hi1⟩ := iter_s hi1
      replace h : B_X11_commonPart_2 w1 w2 w3 = some r1 := h
      delta B_X11_commonPart_2 at h
      refine g_iload (pc := 7) hC dX11_commonPart_7 rfl ?_
      refine g_bipush (pc := 9) hC kb_64 dX11_commonPart_9 ?_
      refine g_icmp_ge (tgt := 34) (pc := 11) hC dX11_commonPart_11 (by decide) (fun c5 => ?_) (fun c5 => ?_)
      · replace h := it_t c5 h
        refine g_mask [false, false, true, false, false, false] rfl ?_
        exact kx1 w1 (iter_r h hi1)
      · replace h := it_f c5 h
        refine g_iload_n (pc := 14) hC dX11_commonPart_14 rfl ?_
        refine g_if_eq (tgt := 34) (pc := 15) hC dX11_commonPart_15 (by decide) (fun c6 => ?_) (fun c6 => ?_)
        · replace h := it_t c6 h
          refine g_mask [false, false, true, false, false, false] rfl ?_
          exact kx1 w1 (iter_r h hi1)
        · replace h := it_f c6 h
          refine g_iload_n (pc := 18) hC dX11_commonPart_18 rfl ?_
          refine g_iload_n (pc := 19) hC dX11_commonPart_19 rfl ?_
          obtain ⟨v7, ev7, nv7, h⟩ := rmd_e h
          refine g_irem (pc := 20) hC nv7 dX11_commonPart_20 ?_
          refine g_top ev7 ?_
          refine g_istore (lv2 := [none, none, some (.int w1), some (.int w2), some (.int w3), some (.int v7)]) (pc := 21) hC dX11_commonPart_21 rfl (Or.inr rfl) (hN _ (by decide)) ?_
          refine g_iload_n (pc := 23) hC dX11_commonPart_23 rfl ?_
          refine g_istore_n (lv2 := [none, none, some (.int w2), some (.int w2), some (.int w3), some (.int v7)]) (pc := 24) hC dX11_commonPart_24 rfl (Or.inr rfl) (hN _ (by decide)) ?_
          refine g_iload (pc := 25) hC dX11_commonPart_25 rfl ?_
          refine g_istore_n (lv2 := [none, none, some (.int w2), some (.int v7), some (.int w3), some (.int v7)]) (pc := 27) hC dX11_commonPart_27 rfl (Or.inr rfl) (hN _ (by decide)) ?_
          obtain ⟨v8, ev8, h⟩ := lt_e h
          refine g_iinc (v := v8) (lv2 := [none, none, some (.int w2), some (.int v7), some (.int v8), some (.int v7)]) (pc := 28) hC dX11_commonPart_28 rfl ev8 rfl (Or.inr rfl) (hN _ (by decide)) ?_
          refine g_goto (tgt := 7) (pc := 31) hC dX11_commonPart_31 (by decide) ?_
          refine g_mask [false, false, true, true, true, false] rfl ?_
          exact ih1 w2 v7 v8 z1 (iter_l h hi1) kx1
  obtain ⟨z1, hz1, h⟩ := lp_e h
  refine g_mask [false, false, true, true, true, false] rfl ?_
  refine hL1 FU a1 a2 0 z1 hz1 (fun v4 ez => ?_)
  replace h : C_X11_commonPart_3 v4 = some r := by rw [ez] at h; exact h
  delta C_X11_commonPart_3 at h
  refine g_iload_n (pc := 34) hC dX11_commonPart_34 rfl ?_
  exact g_retp (pc := 35) hC h hR dX11_commonPart_35

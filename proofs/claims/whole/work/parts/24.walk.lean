set_option maxRecDepth 20000 in
theorem c_X12_laysMatch (l : Launch) (E : uE) (σ : uS) (σr : uS) (h : F_X12_laysMatch σ = some σr) : CtV l E yX12_laysMatch cX12_laysMatch 4 7 159 [.ref (E.2.1 55)] σ σr := by
  refine enterV 3 [some (.ref (E.2.1 55)), none, none, none] (by decide +kernel) rfl (Nat.le_of_ble_eq_true rfl) (fun o K hnL hC hab hR => ?_)
  have hC : Cx E K RX12 cX12_laysMatch none 7 159 := hC
  have hN : ∀ k, k < 4 → k < K.2.2.2.2.2 := fun k hk => hnL ▸ hk
  delta F_X12_laysMatch at h
  refine g_aload_n (pc := 0) hC dX12_laysMatch_0 rfl ?_
  obtain ⟨σ1, hc, h⟩ := cp_e h
  refine g_callVv (pc := 1) (As := []) (rest := []) hC (c_X12_laysNotes l E σ σ1 hc) mi_X12_laysNotes mv_X12_laysNotes ob_55 rfl rfl lk_X12_317 rfl rfl (Nat.le_of_ble_eq_true rfl) ⟨by decide, by decide⟩ hab dX12_laysMatch_1 ?_
  refine g_aload_n (pc := 4) hC dX12_laysMatch_4 rfl ?_
  refine fg_X12_160_55 (pc := 5) hC dX12_laysMatch_5 ?_
  obtain ⟨v2, ev2, h⟩ := lt_e h
  refine g_top ev2 ?_
  refine g_istore_n (lv2 := [some (.ref (E.2.1 55)), some (.int v2), none, none]) (pc := 8) hC dX12_laysMatch_8 rfl (Or.inr rfl) (hN _ (by decide)) ?_
  have hL1 : ∀ (n : Nat) (w3 : Int32) (σ4 : uS) (z1 : uS), iter n (fun z => B_X12_laysMatch_10 z.1 z.2) (w3, σ4) = some z1 → (∀ (σ5 : uS), z1 = σ5 → Gd l E K 0 0 o σ5 176 [some (.ref (E.2.1 55)), none, none, none] []) → Gd l E K 0 0 o σ4 9 [some (.ref (E.2.1 55)), some (.int w3), none, none] [] := by
    intro n
    induction n with
    | zero =>
      intro w3 σ4 z1 hi
      exact (iter_0 hi).elim
    | succ n ih1 =>
      intro w3 σ4 z1 hi1 kx1
      obtain ⟨r1, h, hi1⟩ := iter_s hi1
      replace h : B_X12_laysMatch_10 w3 σ4 = some r1 := h
      delta B_X12_laysMatch_10 at h
      refine g_iload_n (pc := 9) hC dX12_laysMatch_9 rfl ?_
      refine g_if_lt (tgt := 176) (pc := 10) hC dX12_laysMatch_10 (by decide) (fun c6 => ?_) (fun c6 => ?_)
      · replace h := it_t c6 h
        refine g_mask [true, false, false, false] rfl ?_
        exact kx1 σ4 (iter_r h hi1)
      · replace h := it_f c6 h
        refine g_aload_n (pc := 13) hC dX12_laysMatch_13 rfl ?_
        refine fg_X12_308_55 (pc := 14) hC dX12_laysMatch_14 ?_
        obtain ⟨v7, ev7, h⟩ := lt_e h
        refine g_top ev7 ?_
        refine g_istore_n (lv2 := [some (.ref (E.2.1 55)), some (.int w3), some (.int v7), none]) (pc := 17) hC dX12_laysMatch_17 rfl (Or.inr rfl) (hN _ (by decide)) ?_
        have hL2 : ∀ (n : Nat) (w8 : Int32) (σ9 : uS) (z2 : uS), iter n (fun z => B_X12_laysMatch_8 w3 z.1 z.2) (w8, σ9) = some z2 → (∀ (σ10 : uS), z2 = σ10 → Gd l E K 0 0 o σ10 170 [some (.ref (E.2.1 55)), some (.int w3), none, none] []) → Gd l E K 0 0 o σ9 18 [some (.ref (E.2.1 55)), some (.int w3), some (.int w8), none] [] := by
          intro n
          induction n with
          | zero =>
            intro w8 σ9 z2 hi
            exact (iter_0 hi).elim
          | succ n ih2 =>
            intro w8 σ9 z2 hi2 kx2
            obtain ⟨r2, h, hi2⟩ := iter_s hi2
            replace h : B_X12_laysMatch_8 w3 w8 σ9 = some r2 := h
            delta B_X12_laysMatch_8 at h
            refine g_iload_n (pc := 18) hC dX12_laysMatch_18 rfl ?_
            refine g_if_lt (tgt := 170) (pc := 19) hC dX12_laysMatch_19 (by decide) (fun c11 => ?_) (fun c11 => ?_)
            · replace h := it_t c11 h
              refine g_mask [true, true, false, false] rfl ?_
              exact kx2 σ9 (iter_r h hi2)
            · replace h := it_f c11 h
              refine g_iload_n (pc := 22) hC dX12_laysMatch_22 rfl ?_
              refine g_aload_n (pc := 23) hC dX12_laysMatch_23 rfl ?_
              refine fg_X12_160_55 (pc := 24) hC dX12_laysMatch_24 ?_
              have hJ44 : ∀ (v14 : Int32), J_X12_laysMatch_7 w3 w8 σ9 v14 = some r2 → Gd l E K 0 0 o σ9 44 [some (.ref (E.2.1 55)), some (.int w3), some (.int w8), none] [.int v14] := by
                intro v14 h
                delta J_X12_laysMatch_7 at h
                refine g_istore_n (lv2 := [some (.ref (E.2.1 55)), some (.int w3), some (.int w8), some (.int v14)]) (pc := 44) hC dX12_laysMatch_44 rfl (Or.inr rfl) (hN _ (by decide)) ?_
                refine g_iload_n (pc := 45) hC dX12_laysMatch_45 rfl ?_
                refine g_aload_n (pc := 46) hC dX12_laysMatch_46 rfl ?_
                refine fg_X12_160_55 (pc := 47) hC dX12_laysMatch_47 ?_
                have hJ78 : ∀ (v20 : Int32), J_X12_laysMatch_6 w3 w8 σ9 v20 = some r2 → Gd l E K 0 0 o σ9 78 [some (.ref (E.2.1 55)), some (.int w3), some (.int w8), some (.int v20)] [] := by
                  intro v20 h
                  delta J_X12_laysMatch_6 at h
                  refine g_iload_n (pc := 78) hC dX12_laysMatch_78 rfl ?_
                  refine g_aload_n (pc := 79) hC dX12_laysMatch_79 rfl ?_
                  refine fg_X12_308_55 (pc := 80) hC dX12_laysMatch_80 ?_
                  have hJ111 : ∀ (v26 : Int32), J_X12_laysMatch_5 w3 w8 σ9 v26 = some r2 → Gd l E K 0 0 o σ9 111 [some (.ref (E.2.1 55)), some (.int w3), some (.int w8), some (.int v26)] [] := by
                    intro v26 h
                    delta J_X12_laysMatch_5 at h
                    refine g_iload_n (pc := 111) hC dX12_laysMatch_111 rfl ?_
                    refine g_aload_n (pc := 112) hC dX12_laysMatch_112 rfl ?_
                    refine fg_X12_160_55 (pc := 113) hC dX12_laysMatch_113 ?_
                    have hJ153 : ∀ (v33 : Int32), J_X12_laysMatch_4 w3 w8 σ9 v33 = some r2 → Gd l E K 0 0 o σ9 153 [some (.ref (E.2.1 55)), some (.int w3), some (.int w8), some (.int v33)] [] := by
                      intro v33 h
                      delta J_X12_laysMatch_4 at h
                      refine g_aload_n (pc := 153) hC dX12_laysMatch_153 rfl ?_
                      refine fg_X12_95_55 (pc := 154) hC dX12_laysMatch_154 ?_
                      refine g_iload_n (pc := 157) hC dX12_laysMatch_157 rfl ?_
                      refine g_iload_n (pc := 158) hC dX12_laysMatch_158 rfl ?_
                      obtain ⟨v34, hc, h⟩ := cp_e h
                      refine g_callSi (pc := 159) (As := [.int w3, .int w8]) (rest := [.ref (E.2.1 84)]) hC (c_X12_matchAt l E w3 w8 σ9 v34 hc) mi_X12_matchAt ms_X12_matchAt lk_X12_326 rfl rfl (Nat.le_of_ble_eq_true rfl) ⟨by decide, by decide⟩ hab dX12_laysMatch_159 ?_
                      refine g_iload_n (pc := 162) hC dX12_laysMatch_162 rfl ?_
                      obtain ⟨σ35, eσ35, nσ35, h⟩ := wr_e h
                      refine g_iast (pc := 163) hC 84 (by decide) (ar_84 _ _) nσ35 dX12_laysMatch_163 eσ35 ?_
                      obtain ⟨v36, ev36, h⟩ := lt_e h
                      refine g_iinc (v := v36) (lv2 := [some (.ref (E.2.1 55)), some (.int w3), some (.int v36), some (.int v33)]) (pc := 164) hC dX12_laysMatch_164 rfl ev36 rfl (Or.inr rfl) (hN _ (by decide)) ?_
                      refine g_goto (tgt := 18) (pc := 167) hC dX12_laysMatch_167 (by decide) ?_
                      refine g_mask [true, true, true, false] rfl ?_
                      exact ih2 v36 σ35 z2 (iter_l h hi2) kx2
                    refine g_icmp_ge (tgt := 153) (pc := 116) hC dX12_laysMatch_116 (by decide) (fun c27 => ?_) (fun c27 => ?_)
                    · replace h := it_t c27 h
                      exact hJ153 v26 h
                    · replace h := it_f c27 h
                      refine g_iload_n (pc := 119) hC dX12_laysMatch_119 rfl ?_
                      refine g_aload_n (pc := 120) hC dX12_laysMatch_120 rfl ?_
                      refine fg_X12_308_55 (pc := 121) hC dX12_laysMatch_121 ?_
                      refine g_icmp_ge (tgt := 153) (pc := 124) hC dX12_laysMatch_124 (by decide) (fun c28 => ?_) (fun c28 => ?_)
                      · replace h := it_t c28 h
                        exact hJ153 v26 h
                      · replace h := it_f c28 h
                        refine g_iload_n (pc := 127) hC dX12_laysMatch_127 rfl ?_
                        refine g_aload_n (pc := 128) hC dX12_laysMatch_128 rfl ?_
                        refine g_iload_n (pc := 129) hC dX12_laysMatch_129 rfl ?_
                        refine g_iload_n (pc := 130) hC dX12_laysMatch_130 rfl ?_
                        obtain ⟨v29, hc, h⟩ := cp_e h
                        refine g_callVi (pc := 131) (As := [.int w3, .int w8]) (rest := [.int v26]) hC (c_X12_pairCost l E w3 w8 σ9 v29 hc) mi_X12_pairCost mv_X12_pairCost ob_55 rfl rfl lk_X12_332 rfl rfl (Nat.le_of_ble_eq_true rfl) ⟨by decide, by decide⟩ hab dX12_laysMatch_131 ?_
                        refine g_aload_n (pc := 134) hC dX12_laysMatch_134 rfl ?_
                        refine fg_X12_95_55 (pc := 135) hC dX12_laysMatch_135 ?_
                        refine g_iload_n (pc := 138) hC dX12_laysMatch_138 rfl ?_
                        refine g_iconst (pc := 139) hC ki_1 dX12_laysMatch_139 ?_
                        refine g_iadd (pc := 140) hC dX12_laysMatch_140 ?_
                        refine g_iload_n (pc := 141) hC dX12_laysMatch_141 rfl ?_
                        refine g_iconst (pc := 142) hC ki_1 dX12_laysMatch_142 ?_
                        refine g_iadd (pc := 143) hC dX12_laysMatch_143 ?_
                        obtain ⟨v30, hc, h⟩ := cp_e h
                        refine g_callSi (pc := 144) (As := [.int (w3 + 1), .int (w8 + 1)]) (rest := [.ref (E.2.1 84), .int v29, .int v26]) hC (c_X12_matchAt l E (w3 + 1) (w8 + 1) σ9 v30 hc) mi_X12_matchAt ms_X12_matchAt lk_X12_326 rfl rfl (Nat.le_of_ble_eq_true rfl) ⟨by decide, by decide⟩ hab dX12_laysMatch_144 ?_
                        obtain ⟨v31, ev31, nv31, h⟩ := rd_e h
                        refine g_iald (pc := 147) hC 84 (by decide) (ar_84 _ _ _) nv31 dX12_laysMatch_147 ?_
                        refine g_top ev31 ?_
                        refine g_iadd (pc := 148) hC dX12_laysMatch_148 ?_
                        obtain ⟨v32, hc, h⟩ := cp_e h
                        refine g_callSi (pc := 149) (As := [.int v26, .int (v29 + v31)]) (rest := []) hC (c_X12_lesser l E v26 (v29 + v31) σ9 v32 hc) mi_X12_lesser ms_X12_lesser lk_X12_329 rfl rfl (Nat.le_of_ble_eq_true rfl) ⟨by decide, by decide⟩ hab dX12_laysMatch_149 ?_
                        refine g_istore_n (lv2 := [some (.ref (E.2.1 55)), some (.int w3), some (.int w8), some (.int v32)]) (pc := 152) hC dX12_laysMatch_152 rfl (Or.inr rfl) (hN _ (by decide)) ?_
                        exact hJ153 v32 h
                  refine g_icmp_ge (tgt := 111) (pc := 83) hC dX12_laysMatch_83 (by decide) (fun c21 => ?_) (fun c21 => ?_)
                  · replace h := it_t c21 h
                    exact hJ111 v20 h
                  · replace h := it_f c21 h
                    refine g_iload_n (pc := 86) hC dX12_laysMatch_86 rfl ?_
                    refine g_aload_n (pc := 87) hC dX12_laysMatch_87 rfl ?_
                    refine fg_X12_7_55 (pc := 88) hC dX12_laysMatch_88 ?_
                    refine g_bipush (pc := 91) hC kb_15 dX12_laysMatch_91 ?_
                    obtain ⟨v22, ev22, nv22, h⟩ := rd_e h
                    refine g_iald (pc := 93) hC 56 (by decide) (ar_56 _ _ _) nv22 dX12_laysMatch_93 ?_
                    refine g_top ev22 ?_
                    refine g_aload_n (pc := 94) hC dX12_laysMatch_94 rfl ?_
                    refine fg_X12_95_55 (pc := 95) hC dX12_laysMatch_95 ?_
                    refine g_iload_n (pc := 98) hC dX12_laysMatch_98 rfl ?_
                    refine g_iload_n (pc := 99) hC dX12_laysMatch_99 rfl ?_
                    refine g_iconst (pc := 100) hC ki_1 dX12_laysMatch_100 ?_
                    refine g_iadd (pc := 101) hC dX12_laysMatch_101 ?_
                    obtain ⟨v23, hc, h⟩ := cp_e h
                    refine g_callSi (pc := 102) (As := [.int w3, .int (w8 + 1)]) (rest := [.ref (E.2.1 84), .int v22, .int v20]) hC (c_X12_matchAt l E w3 (w8 + 1) σ9 v23 hc) mi_X12_matchAt ms_X12_matchAt lk_X12_326 rfl rfl (Nat.le_of_ble_eq_true rfl) ⟨by decide, by decide⟩ hab dX12_laysMatch_102 ?_
                    obtain ⟨v24, ev24, nv24, h⟩ := rd_e h
                    refine g_iald (pc := 105) hC 84 (by decide) (ar_84 _ _ _) nv24 dX12_laysMatch_105 ?_
                    refine g_top ev24 ?_
                    refine g_iadd (pc := 106) hC dX12_laysMatch_106 ?_
                    obtain ⟨v25, hc, h⟩ := cp_e h
                    refine g_callSi (pc := 107) (As := [.int v20, .int (v22 + v24)]) (rest := []) hC (c_X12_lesser l E v20 (v22 + v24) σ9 v25 hc) mi_X12_lesser ms_X12_lesser lk_X12_329 rfl rfl (Nat.le_of_ble_eq_true rfl) ⟨by decide, by decide⟩ hab dX12_laysMatch_107 ?_
                    refine g_istore_n (lv2 := [some (.ref (E.2.1 55)), some (.int w3), some (.int w8), some (.int v25)]) (pc := 110) hC dX12_laysMatch_110 rfl (Or.inr rfl) (hN _ (by decide)) ?_
                    exact hJ111 v25 h
                refine g_icmp_ge (tgt := 78) (pc := 50) hC dX12_laysMatch_50 (by decide) (fun c15 => ?_) (fun c15 => ?_)
                · replace h := it_t c15 h
                  exact hJ78 v14 h
                · replace h := it_f c15 h
                  refine g_iload_n (pc := 53) hC dX12_laysMatch_53 rfl ?_
                  refine g_aload_n (pc := 54) hC dX12_laysMatch_54 rfl ?_
                  refine fg_X12_7_55 (pc := 55) hC dX12_laysMatch_55 ?_
                  refine g_bipush (pc := 58) hC kb_15 dX12_laysMatch_58 ?_
                  obtain ⟨v16, ev16, nv16, h⟩ := rd_e h
                  refine g_iald (pc := 60) hC 56 (by decide) (ar_56 _ _ _) nv16 dX12_laysMatch_60 ?_
                  refine g_top ev16 ?_
                  refine g_aload_n (pc := 61) hC dX12_laysMatch_61 rfl ?_
                  refine fg_X12_95_55 (pc := 62) hC dX12_laysMatch_62 ?_
                  refine g_iload_n (pc := 65) hC dX12_laysMatch_65 rfl ?_
                  refine g_iconst (pc := 66) hC ki_1 dX12_laysMatch_66 ?_
                  refine g_iadd (pc := 67) hC dX12_laysMatch_67 ?_
                  refine g_iload_n (pc := 68) hC dX12_laysMatch_68 rfl ?_
                  obtain ⟨v17, hc, h⟩ := cp_e h
                  refine g_callSi (pc := 69) (As := [.int (w3 + 1), .int w8]) (rest := [.ref (E.2.1 84), .int v16, .int v14]) hC (c_X12_matchAt l E (w3 + 1) w8 σ9 v17 hc) mi_X12_matchAt ms_X12_matchAt lk_X12_326 rfl rfl (Nat.le_of_ble_eq_true rfl) ⟨by decide, by decide⟩ hab dX12_laysMatch_69 ?_
                  obtain ⟨v18, ev18, nv18, h⟩ := rd_e h
                  refine g_iald (pc := 72) hC 84 (by decide) (ar_84 _ _ _) nv18 dX12_laysMatch_72 ?_
                  refine g_top ev18 ?_
                  refine g_iadd (pc := 73) hC dX12_laysMatch_73 ?_
                  obtain ⟨v19, hc, h⟩ := cp_e h
                  refine g_callSi (pc := 74) (As := [.int v14, .int (v16 + v18)]) (rest := []) hC (c_X12_lesser l E v14 (v16 + v18) σ9 v19 hc) mi_X12_lesser ms_X12_lesser lk_X12_329 rfl rfl (Nat.le_of_ble_eq_true rfl) ⟨by decide, by decide⟩ hab dX12_laysMatch_74 ?_
                  refine g_istore_n (lv2 := [some (.ref (E.2.1 55)), some (.int w3), some (.int w8), some (.int v19)]) (pc := 77) hC dX12_laysMatch_77 rfl (Or.inr rfl) (hN _ (by decide)) ?_
                  exact hJ78 v19 h
              have hJ42 : J_X12_laysMatch_3 w3 w8 σ9 = some r2 → Gd l E K 0 0 o σ9 42 [some (.ref (E.2.1 55)), some (.int w3), some (.int w8), none] [] := by
                intro h
                delta J_X12_laysMatch_3 at h
                refine g_ldc (pc := 42) hC kc_X12_222 dX12_laysMatch_42 ?_
                exact hJ44 2000000000 h
              refine g_icmp_ne (tgt := 42) (pc := 27) hC dX12_laysMatch_27 (by decide) (fun c12 => ?_) (fun c12 => ?_)
              · replace h := it_f c12 h
                exact hJ42 h
              · replace h := it_t c12 h
                refine g_iload_n (pc := 30) hC dX12_laysMatch_30 rfl ?_
                refine g_aload_n (pc := 31) hC dX12_laysMatch_31 rfl ?_
                refine fg_X12_308_55 (pc := 32) hC dX12_laysMatch_32 ?_
                refine g_icmp_ne (tgt := 42) (pc := 35) hC dX12_laysMatch_35 (by decide) (fun c13 => ?_) (fun c13 => ?_)
                · replace h := it_f c13 h
                  exact hJ42 h
                · replace h := it_t c13 h
                  refine g_iconst (pc := 38) hC ki_0 dX12_laysMatch_38 ?_
                  refine g_goto (tgt := 44) (pc := 39) hC dX12_laysMatch_39 (by decide) ?_
                  exact hJ44 0 h
        obtain ⟨z2, hz2, h⟩ := lp_e h
        refine hL2 FU v7 σ4 z2 hz2 (fun σ10 ez => ?_)
        replace h : C_X12_laysMatch_9 w3 σ10 = some r1 := by rw [ez] at h; exact h
        delta C_X12_laysMatch_9 at h
        obtain ⟨v37, ev37, h⟩ := lt_e h
        refine g_iinc (v := v37) (lv2 := [some (.ref (E.2.1 55)), some (.int v37), none, none]) (pc := 170) hC dX12_laysMatch_170 rfl ev37 rfl (Or.inr rfl) (hN _ (by decide)) ?_
        refine g_goto (tgt := 9) (pc := 173) hC dX12_laysMatch_173 (by decide) ?_
        exact ih1 v37 σ10 z1 (iter_l h hi1) kx1
  obtain ⟨z1, hz1, h⟩ := lp_e h
  refine hL1 FU v2 σ1 z1 hz1 (fun σ5 ez => ?_)
  replace h : C_X12_laysMatch_11 σ5 = some σr := by rw [ez] at h; exact h
  delta C_X12_laysMatch_11 at h
  refine g_aload_n (pc := 176) hC dX12_laysMatch_176 rfl ?_
  obtain ⟨σ38, hc, h⟩ := cp_e h
  refine g_callVv (pc := 177) (As := []) (rest := []) hC (c_X12_goesMatch l E σ5 σ38 hc) mi_X12_goesMatch mv_X12_goesMatch ob_55 rfl rfl lk_X12_335 rfl rfl (Nat.le_of_ble_eq_true rfl) ⟨by decide, by decide⟩ hab dX12_laysMatch_177 ?_
  exact g_retv (pc := 180) hC h hR dX12_laysMatch_180
set_option maxRecDepth 20000 in
theorem c_X12_match (l : Launch) (E : uE) (a1 : Int32) (σ : uS) (r : Int32) (σr : uS) (h : F_X12_match a1 σ = some (r, σr)) : CtI l E yX12_match cX12_match 2 (some .int) 8 182 [.ref (E.2.1 55), .int a1] σ r σr := by
  refine enterI 0 [some (.ref (E.2.1 55)), some (.int a1)] (by decide +kernel) rfl (Nat.le_of_ble_eq_true rfl) (fun o K hnL hC hab hR => ?_)
  have hC : Cx E K RX12 cX12_match (some .int) 8 182 := hC
  have hN : ∀ k, k < 2 → k < K.2.2.2.2.2 := fun k hk => hnL ▸ hk
  delta F_X12_match at h
  refine g_aload_n (pc := 0) hC dX12_match_0 rfl ?_
  refine g_iconst (pc := 1) hC ki_0 dX12_match_1 ?_
  obtain ⟨σ1, eσ1, h⟩ := pf_e h
  refine fp_X12_119_55 (pc := 2) hC dX12_match_2 eσ1 ?_
  refine g_aload_n (pc := 5) hC dX12_match_5 rfl ?_
  refine g_iload_n (pc := 6) hC dX12_match_6 rfl ?_
  refine g_iconst (pc := 7) hC ki_0 dX12_match_7 ?_
  refine g_iconst (pc := 8) hC ki_1 dX12_match_8 ?_
  obtain ⟨v2, hc, h⟩ := cp_e h
  refine g_callSi (pc := 9) (As := [.int a1, .int 0, .int 1]) (rest := [.ref (E.2.1 55)]) hC (c_X12_isIn l E a1 0 1 σ1 v2 hc) mi_X12_isIn ms_X12_isIn lk_X12_133 rfl rfl (Nat.le_of_ble_eq_true rfl) ⟨by decide, by decide⟩ hab dX12_match_9 ?_
  refine g_iconst (pc := 12) hC ki_1 dX12_match_12 ?_
  obtain ⟨v4, σ3, hc, h⟩ := cl_e h
  refine g_callVi (pc := 13) (As := [.int v2, .int 1]) (rest := []) hC (c_X12_right l E v2 1 σ1 v4 σ3 hc) mi_X12_right mv_X12_right ob_55 rfl rfl lk_X12_148 rfl rfl (Nat.le_of_ble_eq_true rfl) ⟨by decide, by decide⟩ hab dX12_match_13 ?_
  refine g_if_ne (tgt := 21) (pc := 16) hC dX12_match_16 (by decide) (fun c5 => ?_) (fun c5 => ?_)
  · replace h := it_f c5 h
    refine g_aload_n (pc := 21) hC dX12_match_21 rfl ?_
    obtain ⟨σ6, hc, h⟩ := cp_e h
    refine g_callVv (pc := 22) (As := []) (rest := []) hC (c_X12_laysMatch l E σ3 σ6 hc) mi_X12_laysMatch mv_X12_laysMatch ob_55 rfl rfl lk_X12_341 rfl rfl (Nat.le_of_ble_eq_true rfl) ⟨by decide, by decide⟩ hab dX12_match_22 ?_
    refine g_iload_n (pc := 25) hC dX12_match_25 rfl ?_
    have hJ42 : ∀ (v9 : Int32), J_X12_match_1 σ6 v9 = some (r, σr) → Gd l E K 0 0 o σ6 42 [none, none] [.int v9] := by
      intro v9 h
      delta J_X12_match_1 at h
      exact g_ret (pc := 42) hC h hR dX12_match_42
    refine g_if_ne (tgt := 38) (pc := 26) hC dX12_match_26 (by decide) (fun c7 => ?_) (fun c7 => ?_)
    · replace h := it_f c7 h
      refine g_aload_n (pc := 38) hC dX12_match_38 rfl ?_
      refine fg_X12_338_55 (pc := 39) hC dX12_match_39 ?_
      refine g_mask [false, false] rfl ?_
      exact hJ42 (σ6 55 42) h
    · replace h := it_t c7 h
      refine g_aload_n (pc := 29) hC dX12_match_29 rfl ?_
      refine fg_X12_95_55 (pc := 30) hC dX12_match_30 ?_
      refine g_iconst (pc := 33) hC ki_0 dX12_match_33 ?_
      obtain ⟨v8, ev8, nv8, h⟩ := rd_e h
      refine g_iald (pc := 34) hC 84 (by decide) (ar_84 _ _ _) nv8 dX12_match_34 ?_
      refine g_top ev8 ?_
      refine g_goto (tgt := 42) (pc := 35) hC dX12_match_35 (by decide) ?_
      refine g_mask [false, false] rfl ?_
      exact hJ42 v8 h
  · replace h := it_t c5 h
    refine g_iconst (pc := 19) hC ki_0 dX12_match_19 ?_
    exact g_ret (pc := 20) hC h hR dX12_match_20
set_option maxRecDepth 20000 in
theorem c_X12_matched (l : Launch) (E : uE) (a1 : Int32) (σ : uS) (r : Int32) (σr : uS) (h : F_X12_matched a1 σ = some (r, σr)) : CtI l E yX12_matched cX12_matched 2 (some .int) 8 182 [.ref (E.2.1 55), .int a1] σ r σr := by
  refine enterI 0 [some (.ref (E.2.1 55)), some (.int a1)] (by decide +kernel) rfl (Nat.le_of_ble_eq_true rfl) (fun o K hnL hC hab hR => ?_)
  have hC : Cx E K RX12 cX12_matched (some .int) 8 182 := hC
  have hN : ∀ k, k < 2 → k < K.2.2.2.2.2 := fun k hk => hnL ▸ hk
  delta F_X12_matched at h
  refine g_aload_n (pc := 0) hC dX12_matched_0 rfl ?_
  refine g_iconst (pc := 1) hC ki_0 dX12_matched_1 ?_
  obtain ⟨σ1, eσ1, h⟩ := pf_e h
  refine fp_X12_119_55 (pc := 2) hC dX12_matched_2 eσ1 ?_
  refine g_aload_n (pc := 5) hC dX12_matched_5 rfl ?_
  refine g_iload_n (pc := 6) hC dX12_matched_6 rfl ?_
  refine g_iconst (pc := 7) hC ki_0 dX12_matched_7 ?_
  refine g_aload_n (pc := 8) hC dX12_matched_8 rfl ?_
  refine fg_X12_160_55 (pc := 9) hC dX12_matched_9 ?_
  refine g_iconst (pc := 12) hC ki_1 dX12_matched_12 ?_
  refine g_isub (pc := 13) hC dX12_matched_13 ?_
  obtain ⟨v2, hc, h⟩ := cp_e h
  refine g_callSi (pc := 14) (As := [.int a1, .int 0, .int ((σ1 55 8) - 1)]) (rest := [.ref (E.2.1 55)]) hC (c_X12_isIn l E a1 0 ((σ1 55 8) - 1) σ1 v2 hc) mi_X12_isIn ms_X12_isIn lk_X12_133 rfl rfl (Nat.le_of_ble_eq_true rfl) ⟨by decide, by decide⟩ hab dX12_matched_14 ?_
  refine g_iconst (pc := 17) hC ki_1 dX12_matched_17 ?_
  obtain ⟨v4, σ3, hc, h⟩ := cl_e h
  refine g_callVi (pc := 18) (As := [.int v2, .int 1]) (rest := []) hC (c_X12_right l E v2 1 σ1 v4 σ3 hc) mi_X12_right mv_X12_right ob_55 rfl rfl lk_X12_148 rfl rfl (Nat.le_of_ble_eq_true rfl) ⟨by decide, by decide⟩ hab dX12_matched_18 ?_
  refine g_if_ne (tgt := 26) (pc := 21) hC dX12_matched_21 (by decide) (fun c5 => ?_) (fun c5 => ?_)
  · replace h := it_f c5 h
    refine g_aload_n (pc := 26) hC dX12_matched_26 rfl ?_
    obtain ⟨σ6, hc, h⟩ := cp_e h
    refine g_callVv (pc := 27) (As := []) (rest := []) hC (c_X12_laysMatch l E σ3 σ6 hc) mi_X12_laysMatch mv_X12_laysMatch ob_55 rfl rfl lk_X12_341 rfl rfl (Nat.le_of_ble_eq_true rfl) ⟨by decide, by decide⟩ hab dX12_matched_27 ?_
    refine g_aload_n (pc := 30) hC dX12_matched_30 rfl ?_
    refine fg_X12_98_55 (pc := 31) hC dX12_matched_31 ?_
    refine g_iload_n (pc := 34) hC dX12_matched_34 rfl ?_
    obtain ⟨v7, ev7, nv7, h⟩ := rd_e h
    refine g_iald (pc := 35) hC 85 (by decide) (ar_85 _ _ _) nv7 dX12_matched_35 ?_
    refine g_top ev7 ?_
    exact g_ret (pc := 36) hC h hR dX12_matched_36
  · replace h := it_t c5 h
    refine g_iconst (pc := 24) hC ki_0 dX12_matched_24 ?_
    exact g_ret (pc := 25) hC h hR dX12_matched_25
set_option maxRecDepth 20000 in
theorem c_X12_marks (l : Launch) (E : uE) (σ : uS) (r : Int32) (σr : uS) (h : F_X12_marks σ = some (r, σr)) : CtI l E yX12_marks cX12_marks 1 (some .int) 8 179 [.ref (E.2.1 55)] σ r σr := by
  refine enterI 0 [some (.ref (E.2.1 55))] (by decide +kernel) rfl (Nat.le_of_ble_eq_true rfl) (fun o K hnL hC hab hR => ?_)
  have hC : Cx E K RX12 cX12_marks (some .int) 8 179 := hC
  have hN : ∀ k, k < 1 → k < K.2.2.2.2.2 := fun k hk => hnL ▸ hk
  delta F_X12_marks at h
  refine g_aload_n (pc := 0) hC dX12_marks_0 rfl ?_
  refine g_iconst (pc := 1) hC ki_0 dX12_marks_1 ?_
  obtain ⟨σ1, eσ1, h⟩ := pf_e h
  refine fp_X12_119_55 (pc := 2) hC dX12_marks_2 eσ1 ?_
  refine g_aload_n (pc := 5) hC dX12_marks_5 rfl ?_
  obtain ⟨σ2, hc, h⟩ := cp_e h
  refine g_callVv (pc := 6) (As := []) (rest := []) hC (c_X12_laysMarks l E σ1 σ2 hc) mi_X12_laysMarks mv_X12_laysMarks ob_55 rfl rfl lk_X12_293 rfl rfl (Nat.le_of_ble_eq_true rfl) ⟨by decide, by decide⟩ hab dX12_marks_6 ?_
  refine g_aload_n (pc := 9) hC dX12_marks_9 rfl ?_
  refine fg_X12_350_55 (pc := 10) hC dX12_marks_10 ?_
  exact g_ret (pc := 13) hC h hR dX12_marks_13
set_option maxRecDepth 20000 in
theorem c_X12_mark (l : Launch) (E : uE) (a1 : Int32) (σ : uS) (r : Int32) (σr : uS) (h : F_X12_mark a1 σ = some (r, σr)) : CtI l E yX12_mark cX12_mark 2 (some .int) 8 179 [.ref (E.2.1 55), .int a1] σ r σr := by
  refine enterI 0 [some (.ref (E.2.1 55)), some (.int a1)] (by decide +kernel) rfl (Nat.le_of_ble_eq_true rfl) (fun o K hnL hC hab hR => ?_)
  have hC : Cx E K RX12 cX12_mark (some .int) 8 179 := hC
  have hN : ∀ k, k < 2 → k < K.2.2.2.2.2 := fun k hk => hnL ▸ hk
  delta F_X12_mark at h
  refine g_aload_n (pc := 0) hC dX12_mark_0 rfl ?_
  refine g_iconst (pc := 1) hC ki_0 dX12_mark_1 ?_
  obtain ⟨σ1, eσ1, h⟩ := pf_e h
  refine fp_X12_119_55 (pc := 2) hC dX12_mark_2 eσ1 ?_
  refine g_aload_n (pc := 5) hC dX12_mark_5 rfl ?_
  obtain ⟨σ2, hc, h⟩ := cp_e h
  refine g_callVv (pc := 6) (As := []) (rest := []) hC (c_X12_laysMarks l E σ1 σ2 hc) mi_X12_laysMarks mv_X12_laysMarks ob_55 rfl rfl lk_X12_293 rfl rfl (Nat.le_of_ble_eq_true rfl) ⟨by decide, by decide⟩ hab dX12_mark_6 ?_
  refine g_aload_n (pc := 9) hC dX12_mark_9 rfl ?_
  refine g_iload_n (pc := 10) hC dX12_mark_10 rfl ?_
  refine g_iconst (pc := 11) hC ki_0 dX12_mark_11 ?_
  refine g_aload_n (pc := 12) hC dX12_mark_12 rfl ?_
  refine fg_X12_350_55 (pc := 13) hC dX12_mark_13 ?_
  refine g_iconst (pc := 16) hC ki_1 dX12_mark_16 ?_
  refine g_isub (pc := 17) hC dX12_mark_17 ?_
  obtain ⟨v3, hc, h⟩ := cp_e h
  refine g_callSi (pc := 18) (As := [.int a1, .int 0, .int ((σ2 55 49) - 1)]) (rest := [.ref (E.2.1 55)]) hC (c_X12_isIn l E a1 0 ((σ2 55 49) - 1) σ2 v3 hc) mi_X12_isIn ms_X12_isIn lk_X12_133 rfl rfl (Nat.le_of_ble_eq_true rfl) ⟨by decide, by decide⟩ hab dX12_mark_18 ?_
  refine g_iconst (pc := 21) hC ki_1 dX12_mark_21 ?_
  obtain ⟨v5, σ4, hc, h⟩ := cl_e h
  refine g_callVi (pc := 22) (As := [.int v3, .int 1]) (rest := []) hC (c_X12_right l E v3 1 σ2 v5 σ4 hc) mi_X12_right mv_X12_right ob_55 rfl rfl lk_X12_148 rfl rfl (Nat.le_of_ble_eq_true rfl) ⟨by decide, by decide⟩ hab dX12_mark_22 ?_
  have hJ38 : ∀ (v8 : Int32), J_X12_mark_1 σ4 v8 = some (r, σr) → Gd l E K 0 0 o σ4 38 [none, none] [.int v8] := by
    intro v8 h
    delta J_X12_mark_1 at h
    exact g_ret (pc := 38) hC h hR dX12_mark_38
  refine g_if_eq (tgt := 37) (pc := 25) hC dX12_mark_25 (by decide) (fun c6 => ?_) (fun c6 => ?_)
  · replace h := it_t c6 h
    refine g_iconst (pc := 37) hC ki_0 dX12_mark_37 ?_
    refine g_mask [false, false] rfl ?_
    exact hJ38 0 h
  · replace h := it_f c6 h
    refine g_aload_n (pc := 28) hC dX12_mark_28 rfl ?_
    refine fg_X12_107_55 (pc := 29) hC dX12_mark_29 ?_
    refine g_iload_n (pc := 32) hC dX12_mark_32 rfl ?_
    obtain ⟨v7, ev7, nv7, h⟩ := rd_e h
    refine g_iald (pc := 33) hC 88 (by decide) (ar_88 _ _ _) nv7 dX12_mark_33 ?_
    refine g_top ev7 ?_
    refine g_goto (tgt := 38) (pc := 34) hC dX12_mark_34 (by decide) ?_
    refine g_mask [false, false] rfl ?_
    exact hJ38 v7 h
set_option maxRecDepth 20000 in
theorem c_X12_off (l : Launch) (E : uE) (a1 : Int64) (a2 : Int64) (σ : uS) (r : Int64) (h : F_X12_off a1 a2 σ = some r) : CtL l E yX12_off cX12_off 4 0 0 [.long a1, .long a2] σ r σ := by
  refine enterL 0 [some (.long a1), none, some (.long a2), none] (by decide +kernel) rfl (Nat.le_of_ble_eq_true rfl) (fun o K hnL hC hab hR => ?_)
  have hC : Cx E K RX12 cX12_off (some .long) 0 0 := hC
  have hN : ∀ k, k < 4 → k < K.2.2.2.2.2 := fun k hk => hnL ▸ hk
  delta F_X12_off at h
  refine g_lload_n (pc := 0) hC dX12_off_0 rfl ?_
  refine g_lload_n (pc := 1) hC dX12_off_1 rfl ?_
  refine g_lcmp (pc := 2) hC dX12_off_2 ?_
  obtain ⟨v2, ev2, h⟩ := lt_e h
  have hJ15 : Gd l E K 0 0 o σ 15 [none, none, none, none] [.long v2] := by
    exact g_retlp (pc := 15) hC h hR dX12_off_15
  refine g_if_le (tgt := 12) (pc := 3) hC dX12_off_3 (by decide) (fun c1 => ?_) (fun c1 => ?_)
  · refine g_lload_n (pc := 12) hC dX12_off_12 rfl ?_
    refine g_lload_n (pc := 13) hC dX12_off_13 rfl ?_
    refine g_lsub (pc := 14) hC dX12_off_14 ?_
    refine g_mask [false, false, false, false] rfl ?_
    exact g_topl (iv_t c1 ev2) hJ15
  · refine g_lload_n (pc := 6) hC dX12_off_6 rfl ?_
    refine g_lload_n (pc := 7) hC dX12_off_7 rfl ?_
    refine g_lsub (pc := 8) hC dX12_off_8 ?_
    refine g_goto (tgt := 15) (pc := 9) hC dX12_off_9 (by decide) ?_
    refine g_mask [false, false, false, false] rfl ?_
    exact g_topl (iv_f c1 ev2) hJ15
set_option maxRecDepth 20000 in
theorem c_X12_near (l : Launch) (E : uE) (a1 : Int32) (σ : uS) (r : Int32) (σr : uS) (h : F_X12_near a1 σ = some (r, σr)) : CtI l E yX12_near cX12_near 4 (some .int) 8 179 [.ref (E.2.1 55), .int a1] σ r σr := by
  refine enterI 2 [some (.ref (E.2.1 55)), some (.int a1), none, none] (by decide +kernel) rfl (Nat.le_of_ble_eq_true rfl) (fun o K hnL hC hab hR => ?_)
  have hC : Cx E K RX12 cX12_near (some .int) 8 179 := hC
  have hN : ∀ k, k < 4 → k < K.2.2.2.2.2 := fun k hk => hnL ▸ hk
  delta F_X12_near at h
  refine g_aload_n (pc := 0) hC dX12_near_0 rfl ?_
  refine g_iconst (pc := 1) hC ki_0 dX12_near_1 ?_
  obtain ⟨σ1, eσ1, h⟩ := pf_e h
  refine fp_X12_119_55 (pc := 2) hC dX12_near_2 eσ1 ?_
  refine g_aload_n (pc := 5) hC dX12_near_5 rfl ?_
  obtain ⟨σ2, hc, h⟩ := cp_e h
  refine g_callVv (pc := 6) (As := []) (rest := []) hC (c_X12_laysMarks l E σ1 σ2 hc) mi_X12_laysMarks mv_X12_laysMarks ob_55 rfl rfl lk_X12_293 rfl rfl (Nat.le_of_ble_eq_true rfl) ⟨by decide, by decide⟩ hab dX12_near_6 ?_
  refine g_iconst (pc := 9) hC ki_m1 dX12_near_9 ?_
  refine g_istore_n (lv2 := [some (.ref (E.2.1 55)), some (.int a1), some (.int (-1)), none]) (pc := 10) hC dX12_near_10 rfl (Or.inr rfl) (hN _ (by decide)) ?_
  refine g_iconst (pc := 11) hC ki_0 dX12_near_11 ?_
  refine g_istore_n (lv2 := [some (.ref (E.2.1 55)), some (.int a1), some (.int (-1)), some (.int 0)]) (pc := 12) hC dX12_near_12 rfl (Or.inr rfl) (hN _ (by decide)) ?_
  have hL1 : ∀ (n : Nat) (w3 : Int32) (w4 : Int32) (z1 : Int32), iter n (fun z => B_X12_near_4 a1 σ2 z.1 z.2) (w3, w4) = some z1 → (∀ (v5 : Int32), z1 = v5 → Gd l E K 0 0 o σ2 62 [some (.ref (E.2.1 55)), none, some (.int v5), none] []) → Gd l E K 0 0 o σ2 13 [some (.ref (E.2.1 55)), some (.int a1), some (.int w3), some (.int w4)] [] := by
    intro n
    induction n with
    | zero =>
      intro w3 w4 z1 hi
      exact (iter_0 hi).elim
    | succ n ih1 =>
      intro w3 w4 z1 hi1 kx1
      obtain ⟨r1, h, hi1⟩ := iter_s hi1
      replace h : B_X12_near_4 a1 σ2 w3 w4 = some r1 := h
      delta B_X12_near_4 at h
      refine g_iload_n (pc := 13) hC dX12_near_13 rfl ?_
      refine g_aload_n (pc := 14) hC dX12_near_14 rfl ?_
      refine fg_X12_350_55 (pc := 15) hC dX12_near_15 ?_
      refine g_icmp_ge (tgt := 62) (pc := 18) hC dX12_near_18 (by decide) (fun c6 => ?_) (fun c6 => ?_)
      · replace h := it_t c6 h
        refine g_mask [true, false, true, false] rfl ?_
        exact kx1 w3 (iter_r h hi1)
      · replace h := it_f c6 h
        refine g_iload_n (pc := 21) hC dX12_near_21 rfl ?_
        refine g_iconst (pc := 22) hC ki_m1 dX12_near_22 ?_
        have hJ56 : ∀ (v13 : Int32), J_X12_near_3 w4 v13 = some r1 → Gd l E K 0 0 o σ2 56 [some (.ref (E.2.1 55)), some (.int a1), some (.int v13), some (.int w4)] [] := by
          intro v13 h
          delta J_X12_near_3 at h
          obtain ⟨v14, ev14, h⟩ := lt_e h
          refine g_iinc (v := v14) (lv2 := [some (.ref (E.2.1 55)), some (.int a1), some (.int v13), some (.int v14)]) (pc := 56) hC dX12_near_56 rfl ev14 rfl (Or.inr rfl) (hN _ (by decide)) ?_
          refine g_goto (tgt := 13) (pc := 59) hC dX12_near_59 (by decide) ?_
          exact ih1 v13 v14 z1 (iter_l h hi1) kx1
        have hJ54 : J_X12_near_2 w4 = some r1 → Gd l E K 0 0 o σ2 54 [some (.ref (E.2.1 55)), some (.int a1), none, some (.int w4)] [] := by
          intro h
          delta J_X12_near_2 at h
          refine g_iload_n (pc := 54) hC dX12_near_54 rfl ?_
          refine g_istore_n (lv2 := [some (.ref (E.2.1 55)), some (.int a1), some (.int w4), some (.int w4)]) (pc := 55) hC dX12_near_55 rfl (Or.inr rfl) (hN _ (by decide)) ?_
          exact hJ56 w4 h
        refine g_icmp_eq (tgt := 54) (pc := 23) hC dX12_near_23 (by decide) (fun c7 => ?_) (fun c7 => ?_)
        · replace h := it_t c7 h
          refine g_mask [true, true, false, true] rfl ?_
          exact hJ54 h
        · replace h := it_f c7 h
          refine g_aload_n (pc := 26) hC dX12_near_26 rfl ?_
          refine fg_X12_107_55 (pc := 27) hC dX12_near_27 ?_
          refine g_iload_n (pc := 30) hC dX12_near_30 rfl ?_
          obtain ⟨v8, ev8, nv8, h⟩ := rd_e h
          refine g_iald (pc := 31) hC 88 (by decide) (ar_88 _ _ _) nv8 dX12_near_31 ?_
          refine g_top ev8 ?_
          refine g_i2l (pc := 32) hC dX12_near_32 ?_
          refine g_iload_n (pc := 33) hC dX12_near_33 rfl ?_
          refine g_i2l (pc := 34) hC dX12_near_34 ?_
          obtain ⟨v9, hc, h⟩ := cp_e h
          refine g_callSl (pc := 35) (As := [.long (Int32.toInt64 v8), .long (Int32.toInt64 a1)]) (rest := []) hC (c_X12_off l E (Int32.toInt64 v8) (Int32.toInt64 a1) σ2 v9 hc) mi_X12_off ms_X12_off lk_X12_356 rfl rfl (Nat.le_of_ble_eq_true rfl) ⟨by decide, by decide⟩ hab dX12_near_35 ?_
          refine g_aload_n (pc := 38) hC dX12_near_38 rfl ?_
          refine fg_X12_107_55 (pc := 39) hC dX12_near_39 ?_
          refine g_iload_n (pc := 42) hC dX12_near_42 rfl ?_
          obtain ⟨v10, ev10, nv10, h⟩ := rd_e h
          refine g_iald (pc := 43) hC 88 (by decide) (ar_88 _ _ _) nv10 dX12_near_43 ?_
          refine g_top ev10 ?_
          refine g_i2l (pc := 44) hC dX12_near_44 ?_
          refine g_iload_n (pc := 45) hC dX12_near_45 rfl ?_
          refine g_i2l (pc := 46) hC dX12_near_46 ?_
          obtain ⟨v11, hc, h⟩ := cp_e h
          refine g_callSl (pc := 47) (As := [.long (Int32.toInt64 v10), .long (Int32.toInt64 a1)]) (rest := [.long v9]) hC (c_X12_off l E (Int32.toInt64 v10) (Int32.toInt64 a1) σ2 v11 hc) mi_X12_off ms_X12_off lk_X12_356 rfl rfl (Nat.le_of_ble_eq_true rfl) ⟨by decide, by decide⟩ hab dX12_near_47 ?_
          refine g_lcmp (pc := 50) hC dX12_near_50 ?_
          refine g_if_ge (tgt := 56) (pc := 51) hC dX12_near_51 (by decide) (fun c12 => ?_) (fun c12 => ?_)
          · replace h := it_t c12 h
            exact hJ56 w3 h
          · replace h := it_f c12 h
            refine g_mask [true, true, false, true] rfl ?_
            exact hJ54 h
  obtain ⟨z1, hz1, h⟩ := lp_e h
  refine hL1 FU (-1) 0 z1 hz1 (fun v5 ez => ?_)
  replace h : C_X12_near_6 σ2 v5 = some (r, σr) := by rw [ez] at h; exact h
  delta C_X12_near_6 at h
  refine g_iload_n (pc := 62) hC dX12_near_62 rfl ?_
  refine g_iconst (pc := 63) hC ki_m1 dX12_near_63 ?_
  have hJ77 : ∀ (v17 : Int32), J_X12_near_5 σ2 v17 = some (r, σr) → Gd l E K 0 0 o σ2 77 [none, none, none, none] [.int v17] := by
    intro v17 h
    delta J_X12_near_5 at h
    exact g_ret (pc := 77) hC h hR dX12_near_77
  refine g_icmp_ne (tgt := 71) (pc := 64) hC dX12_near_64 (by decide) (fun c15 => ?_) (fun c15 => ?_)
  · replace h := it_f c15 h
    refine g_aload_n (pc := 71) hC dX12_near_71 rfl ?_
    refine fg_X12_107_55 (pc := 72) hC dX12_near_72 ?_
    refine g_iload_n (pc := 75) hC dX12_near_75 rfl ?_
    obtain ⟨v16, ev16, nv16, h⟩ := rd_e h
    refine g_iald (pc := 76) hC 88 (by decide) (ar_88 _ _ _) nv16 dX12_near_76 ?_
    refine g_top ev16 ?_
    refine g_mask [false, false, false, false] rfl ?_
    exact hJ77 v16 h
  · replace h := it_t c15 h
    refine g_iconst (pc := 67) hC ki_m1 dX12_near_67 ?_
    refine g_goto (tgt := 77) (pc := 68) hC dX12_near_68 (by decide) ?_
    refine g_mask [false, false, false, false] rfl ?_
    exact hJ77 (-1) h
set_option maxRecDepth 20000 in
theorem c_X12_behind (l : Launch) (E : uE) (a1 : Int32) (σ : uS) (r : Int32) (σr : uS) (h : F_X12_behind a1 σ = some (r, σr)) : CtI l E yX12_behind cX12_behind 3 (some .int) 8 179 [.ref (E.2.1 55), .int a1] σ r σr := by
  refine enterI 1 [some (.ref (E.2.1 55)), some (.int a1), none] (by decide +kernel) rfl (Nat.le_of_ble_eq_true rfl) (fun o K hnL hC hab hR => ?_)
  have hC : Cx E K RX12 cX12_behind (some .int) 8 179 := hC
  have hN : ∀ k, k < 3 → k < K.2.2.2.2.2 := fun k hk => hnL ▸ hk
  delta F_X12_behind at h
  refine g_aload_n (pc := 0) hC dX12_behind_0 rfl ?_
  refine g_iconst (pc := 1) hC ki_0 dX12_behind_1 ?_
  obtain ⟨σ1, eσ1, h⟩ := pf_e h
  refine fp_X12_119_55 (pc := 2) hC dX12_behind_2 eσ1 ?_
  refine g_aload_n (pc := 5) hC dX12_behind_5 rfl ?_
  obtain ⟨σ2, hc, h⟩ := cp_e h
  refine g_callVv (pc := 6) (As := []) (rest := []) hC (c_X12_laysMarks l E σ1 σ2 hc) mi_X12_laysMarks mv_X12_laysMarks ob_55 rfl rfl lk_X12_293 rfl rfl (Nat.le_of_ble_eq_true rfl) ⟨by decide, by decide⟩ hab dX12_behind_6 ?_
  refine g_iconst (pc := 9) hC ki_0 dX12_behind_9 ?_
  refine g_istore_n (lv2 := [some (.ref (E.2.1 55)), some (.int a1), some (.int 0)]) (pc := 10) hC dX12_behind_10 rfl (Or.inr rfl) (hN _ (by decide)) ?_
  have hL1 : ∀ (n : Nat) (w3 : Int32) (z1 : (Unit) ⊕ (Int32 × uS)), iter n (fun z => B_X12_behind_2 a1 σ2 z) w3 = some z1 → (z1 = .inl () → Gd l E K 0 0 o σ2 42 [none, none, none] []) → (∀ q, z1 = .inr q → some q = some (r, σr)) → Gd l E K 0 0 o σ2 11 [some (.ref (E.2.1 55)), some (.int a1), some (.int w3)] [] := by
    intro n
    induction n with
    | zero =>
      intro w3 z1 hi
      exact (iter_0 hi).elim
    | succ n ih1 =>
      intro w3 z1 hi1 kx1 kr1
      obtain ⟨r1, h, hi1⟩ := iter_s hi1
      replace h : B_X12_behind_2 a1 σ2 w3 = some r1 := h
      delta B_X12_behind_2 at h
      refine g_iload_n (pc := 11) hC dX12_behind_11 rfl ?_
      refine g_aload_n (pc := 12) hC dX12_behind_12 rfl ?_
      refine fg_X12_350_55 (pc := 13) hC dX12_behind_13 ?_
      refine g_icmp_ge (tgt := 42) (pc := 16) hC dX12_behind_16 (by decide) (fun c4 => ?_) (fun c4 => ?_)
      · replace h := it_t c4 h
        refine g_mask [false, false, false] rfl ?_
        exact kx1 (iter_r h hi1)
      · replace h := it_f c4 h
        refine g_aload_n (pc := 19) hC dX12_behind_19 rfl ?_
        refine fg_X12_107_55 (pc := 20) hC dX12_behind_20 ?_
        refine g_iload_n (pc := 23) hC dX12_behind_23 rfl ?_
        obtain ⟨v5, ev5, nv5, h⟩ := rd_e h
        refine g_iald (pc := 24) hC 88 (by decide) (ar_88 _ _ _) nv5 dX12_behind_24 ?_
        refine g_top ev5 ?_
        refine g_iload_n (pc := 25) hC dX12_behind_25 rfl ?_
        refine g_icmp_le (tgt := 36) (pc := 26) hC dX12_behind_26 (by decide) (fun c6 => ?_) (fun c6 => ?_)
        · replace h := it_t c6 h
          obtain ⟨v7, ev7, h⟩ := lt_e h
          refine g_iinc (v := v7) (lv2 := [some (.ref (E.2.1 55)), some (.int a1), some (.int v7)]) (pc := 36) hC dX12_behind_36 rfl ev7 rfl (Or.inr rfl) (hN _ (by decide)) ?_
          refine g_goto (tgt := 11) (pc := 39) hC dX12_behind_39 (by decide) ?_
          exact ih1 v7 z1 (iter_l h hi1) kx1 kr1
        · replace h := it_f c6 h
          refine g_aload_n (pc := 29) hC dX12_behind_29 rfl ?_
          refine fg_X12_107_55 (pc := 30) hC dX12_behind_30 ?_
          refine g_iload_n (pc := 33) hC dX12_behind_33 rfl ?_
          obtain ⟨v8, ev8, nv8, h⟩ := rd_e h
          refine g_iald (pc := 34) hC 88 (by decide) (ar_88 _ _ _) nv8 dX12_behind_34 ?_
          refine g_top ev8 ?_
          exact g_ret (pc := 35) hC (kr1 _ (iter_r h hi1)) hR dX12_behind_35
  obtain ⟨z1, hz1, h⟩ := lp_e h
  refine hL1 FU 0 z1 hz1 (fun ez => ?_) (fun q ez => by rw [ez] at h; exact h)
  replace h : C_X12_behind_3 σ2 = some (r, σr) := by rw [ez] at h; exact h
  delta C_X12_behind_3 at h
  refine g_iconst (pc := 42) hC ki_m1 dX12_behind_42 ?_
  exact g_ret (pc := 43) hC h hR dX12_behind_43
set_option maxRecDepth 20000 in
theorem c_X12_hasGap (l : Launch) (E : uE) (a1 : Int32) (σ : uS) (r : Int32) (h : F_X12_hasGap a1 σ = some r) : CtI l E yX12_hasGap cX12_hasGap 2 (some .boolean) 0 0 [.ref (E.2.1 55), .int a1] σ r σ := by
  refine enterI 0 [some (.ref (E.2.1 55)), some (.int a1)] (by decide +kernel) rfl (Nat.le_of_ble_eq_true rfl) (fun o K hnL hC hab hR => ?_)
  have hC : Cx E K RX12 cX12_hasGap (some .boolean) 0 0 := hC
  have hN : ∀ k, k < 2 → k < K.2.2.2.2.2 := fun k hk => hnL ▸ hk
  delta F_X12_hasGap at h
  refine g_iload_n (pc := 0) hC dX12_hasGap_0 rfl ?_
  refine g_iconst (pc := 1) hC ki_1 dX12_hasGap_1 ?_
  refine g_iadd (pc := 2) hC dX12_hasGap_2 ?_
  refine g_aload_n (pc := 3) hC dX12_hasGap_3 rfl ?_
  refine fg_X12_350_55 (pc := 4) hC dX12_hasGap_4 ?_
  have hJ32 : ∀ (v5 : Int32), J_X12_hasGap_2 v5 = some r → Gd l E K 0 0 o σ 32 [none, none] [.int v5] := by
    intro v5 h
    delta J_X12_hasGap_2 at h
    obtain ⟨h01, h⟩ := bz_e h
    exact g_retzp (pc := 32) hC h01 h hR dX12_hasGap_32
  have hJ31 : J_X12_hasGap_1 = some r → Gd l E K 0 0 o σ 31 [none, none] [] := by
    intro h
    delta J_X12_hasGap_1 at h
    refine g_iconst (pc := 31) hC ki_0 dX12_hasGap_31 ?_
    exact hJ32 0 h
  refine g_icmp_ge (tgt := 31) (pc := 7) hC dX12_hasGap_7 (by decide) (fun c1 => ?_) (fun c1 => ?_)
  · replace h := it_t c1 h
    refine g_mask [false, false] rfl ?_
    exact hJ31 h
  · replace h := it_f c1 h
    refine g_aload_n (pc := 10) hC dX12_hasGap_10 rfl ?_
    refine fg_X12_110_55 (pc := 11) hC dX12_hasGap_11 ?_
    refine g_iload_n (pc := 14) hC dX12_hasGap_14 rfl ?_
    refine g_iconst (pc := 15) hC ki_1 dX12_hasGap_15 ?_
    refine g_iadd (pc := 16) hC dX12_hasGap_16 ?_
    obtain ⟨v2, ev2, nv2, h⟩ := rd_e h
    refine g_iald (pc := 17) hC 89 (by decide) (ar_89 _ _ _) nv2 dX12_hasGap_17 ?_
    refine g_top ev2 ?_
    refine g_aload_n (pc := 18) hC dX12_hasGap_18 rfl ?_
    refine fg_X12_110_55 (pc := 19) hC dX12_hasGap_19 ?_
    refine g_iload_n (pc := 22) hC dX12_hasGap_22 rfl ?_
    obtain ⟨v3, ev3, nv3, h⟩ := rd_e h
    refine g_iald (pc := 23) hC 89 (by decide) (ar_89 _ _ _) nv3 dX12_hasGap_23 ?_
    refine g_top ev3 ?_
    refine g_icmp_ne (tgt := 31) (pc := 24) hC dX12_hasGap_24 (by decide) (fun c4 => ?_) (fun c4 => ?_)
    · replace h := it_f c4 h
      refine g_mask [false, false] rfl ?_
      exact hJ31 h
    · replace h := it_t c4 h
      refine g_iconst (pc := 27) hC ki_1 dX12_hasGap_27 ?_
      refine g_goto (tgt := 32) (pc := 28) hC dX12_hasGap_28 (by decide) ?_
      refine g_mask [false, false] rfl ?_
      exact hJ32 1 h
set_option maxRecDepth 20000 in
theorem c_X12_gapOf (l : Launch) (E : uE) (a1 : Int32) (σ : uS) (r : Int32) (h : F_X12_gapOf a1 σ = some r) : CtI l E yX12_gapOf cX12_gapOf 2 (some .int) 0 0 [.ref (E.2.1 55), .int a1] σ r σ := by
  refine enterI 0 [some (.ref (E.2.1 55)), some (.int a1)] (by decide +kernel) rfl (Nat.le_of_ble_eq_true rfl) (fun o K hnL hC hab hR => ?_)
  have hC : Cx E K RX12 cX12_gapOf (some .int) 0 0 := hC
  have hN : ∀ k, k < 2 → k < K.2.2.2.2.2 := fun k hk => hnL ▸ hk
  delta F_X12_gapOf at h
  refine g_aload_n (pc := 0) hC dX12_gapOf_0 rfl ?_
  refine fg_X12_107_55 (pc := 1) hC dX12_gapOf_1 ?_
  refine g_iload_n (pc := 4) hC dX12_gapOf_4 rfl ?_
  refine g_iconst (pc := 5) hC ki_1 dX12_gapOf_5 ?_
  refine g_iadd (pc := 6) hC dX12_gapOf_6 ?_
  obtain ⟨v1, ev1, nv1, h⟩ := rd_e h
  refine g_iald (pc := 7) hC 88 (by decide) (ar_88 _ _ _) nv1 dX12_gapOf_7 ?_
  refine g_top ev1 ?_
  refine g_aload_n (pc := 8) hC dX12_gapOf_8 rfl ?_
  refine fg_X12_107_55 (pc := 9) hC dX12_gapOf_9 ?_
  refine g_iload_n (pc := 12) hC dX12_gapOf_12 rfl ?_
  obtain ⟨v2, ev2, nv2, h⟩ := rd_e h
  refine g_iald (pc := 13) hC 88 (by decide) (ar_88 _ _ _) nv2 dX12_gapOf_13 ?_
  refine g_top ev2 ?_
  refine g_isub (pc := 14) hC dX12_gapOf_14 ?_
  exact g_retp (pc := 15) hC h hR dX12_gapOf_15
set_option maxRecDepth 20000 in
theorem c_X12_gaps (l : Launch) (E : uE) (a1 : Int32) (σ : uS) (r : Int32) (σr : uS) (h : F_X12_gaps a1 σ = some (r, σr)) : CtI l E yX12_gaps cX12_gaps 8 (some .int) 8 179 [.ref (E.2.1 55), .int a1] σ r σr := by
  refine enterI 6 [some (.ref (E.2.1 55)), some (.int a1), none, none, none, none, none, none] (by decide +kernel) rfl (Nat.le_of_ble_eq_true rfl) (fun o K hnL hC hab hR => ?_)
  have hC : Cx E K RX12 cX12_gaps (some .int) 8 179 := hC
  have hN : ∀ k, k < 8 → k < K.2.2.2.2.2 := fun k hk => hnL ▸ hk
  delta F_X12_gaps at h
  refine g_aload_n (pc := 0) hC dX12_gaps_0 rfl ?_
  refine g_iconst (pc := 1) hC ki_0 dX12_gaps_1 ?_
  obtain ⟨σ1, eσ1, h⟩ := pf_e h
  refine fp_X12_119_55 (pc := 2) hC dX12_gaps_2 eσ1 ?_
  refine g_aload_n (pc := 5) hC dX12_gaps_5 rfl ?_
  refine g_iload_n (pc := 6) hC dX12_gaps_6 rfl ?_
  refine g_iconst (pc := 7) hC ki_0 dX12_gaps_7 ?_
  refine g_iconst (pc := 8) hC ki_4 dX12_gaps_8 ?_
  obtain ⟨v2, hc, h⟩ := cp_e h
  refine g_callSi (pc := 9) (As := [.int a1, .int 0, .int 4]) (rest := [.ref (E.2.1 55)]) hC (c_X12_isIn l E a1 0 4 σ1 v2 hc) mi_X12_isIn ms_X12_isIn lk_X12_133 rfl rfl (Nat.le_of_ble_eq_true rfl) ⟨by decide, by decide⟩ hab dX12_gaps_9 ?_
  refine g_iconst (pc := 12) hC ki_1 dX12_gaps_12 ?_
  obtain ⟨v4, σ3, hc, h⟩ := cl_e h
  refine g_callVi (pc := 13) (As := [.int v2, .int 1]) (rest := []) hC (c_X12_right l E v2 1 σ1 v4 σ3 hc) mi_X12_right mv_X12_right ob_55 rfl rfl lk_X12_148 rfl rfl (Nat.le_of_ble_eq_true rfl) ⟨by decide, by decide⟩ hab dX12_gaps_13 ?_
  refine g_if_ne (tgt := 21) (pc := 16) hC dX12_gaps_16 (by decide) (fun c5 => ?_) (fun c5 => ?_)
  · replace h := it_f c5 h
    refine g_aload_n (pc := 21) hC dX12_gaps_21 rfl ?_
    obtain ⟨σ6, hc, h⟩ := cp_e h
    refine g_callVv (pc := 22) (As := []) (rest := []) hC (c_X12_laysMarks l E σ3 σ6 hc) mi_X12_laysMarks mv_X12_laysMarks ob_55 rfl rfl lk_X12_293 rfl rfl (Nat.le_of_ble_eq_true rfl) ⟨by decide, by decide⟩ hab dX12_gaps_22 ?_
    refine g_iconst (pc := 25) hC ki_0 dX12_gaps_25 ?_
    refine g_istore_n (lv2 := [some (.ref (E.2.1 55)), some (.int a1), some (.int 0), none, none, none, none, none]) (pc := 26) hC dX12_gaps_26 rfl (Or.inr rfl) (hN _ (by decide)) ?_
    refine g_iconst (pc := 27) hC ki_0 dX12_gaps_27 ?_
    refine g_istore_n (lv2 := [some (.ref (E.2.1 55)), some (.int a1), some (.int 0), some (.int 0), none, none, none, none]) (pc := 28) hC dX12_gaps_28 rfl (Or.inr rfl) (hN _ (by decide)) ?_
    refine g_iconst (pc := 29) hC ki_0 dX12_gaps_29 ?_
    refine g_istore (lv2 := [some (.ref (E.2.1 55)), some (.int a1), some (.int 0), some (.int 0), some (.int 0), none, none, none]) (pc := 30) hC dX12_gaps_30 rfl (Or.inr rfl) (hN _ (by decide)) ?_
    refine g_iconst (pc := 32) hC ki_m1 dX12_gaps_32 ?_
    refine g_istore (lv2 := [some (.ref (E.2.1 55)), some (.int a1), some (.int 0), some (.int 0), some (.int 0), some (.int (-1)), none, none]) (pc := 33) hC dX12_gaps_33 rfl (Or.inr rfl) (hN _ (by decide)) ?_
    refine g_iconst (pc := 35) hC ki_m1 dX12_gaps_35 ?_
    refine g_istore (lv2 := [some (.ref (E.2.1 55)), some (.int a1), some (.int 0), some (.int 0), some (.int 0), some (.int (-1)), some (.int (-1)), none]) (pc := 36) hC dX12_gaps_36 rfl (Or.inr rfl) (hN _ (by decide)) ?_
    refine g_iconst (pc := 38) hC ki_0 dX12_gaps_38 ?_
    refine g_istore (lv2 := [some (.ref (E.2.1 55)), some (.int a1), some (.int 0), some (.int 0), some (.int 0), some (.int (-1)), some (.int (-1)), some (.int 0)]) (pc := 39) hC dX12_gaps_39 rfl (Or.inr rfl) (hN _ (by decide)) ?_
    have hL1 : ∀ (n : Nat) (w7 : Int32) (w8 : Int32) (w9 : Int32) (w10 : Int32) (w11 : Int32) (w12 : Int32) (z1 : Int32 × Int32 × Int32 × Int32 × Int32), iter n (fun z => B_X12_gaps_7 σ6 z.1 z.2.1 z.2.2.1 z.2.2.2.1 z.2.2.2.2.1 z.2.2.2.2.2) (w7, w8, w9, w10, w11, w12) = some z1 → (∀ (v13 : Int32) (v14 : Int32) (v15 : Int32) (v16 : Int32) (v17 : Int32), z1 = (v13, v14, v15, v16, v17) → Gd l E K 0 0 o σ6 194 [none, some (.int a1), some (.int v13), some (.int v14), some (.int v15), some (.int v16), some (.int v17), none] []) → Gd l E K 0 0 o σ6 41 [some (.ref (E.2.1 55)), some (.int a1), some (.int w7), some (.int w8), some (.int w9), some (.int w10), some (.int w11), some (.int w12)] [] := by
      intro n
      induction n with
      | zero =>
        intro w7 w8 w9 w10 w11 w12 z1 hi
        exact (iter_0 hi).elim
      | succ n ih1 =>
        intro w7 w8 w9 w10 w11 w12 z1 hi1 kx1
        obtain ⟨r1, h, hi1⟩ := iter_s hi1
        replace h : B_X12_gaps_7 σ6 w7 w8 w9 w10 w11 w12 = some r1 := h
        delta B_X12_gaps_7 at h
        refine g_iload (pc := 41) hC dX12_gaps_41 rfl ?_
        refine g_aload_n (pc := 43) hC dX12_gaps_43 rfl ?_
        refine fg_X12_350_55 (pc := 44) hC dX12_gaps_44 ?_
        refine g_icmp_ge (tgt := 194) (pc := 47) hC dX12_gaps_47 (by decide) (fun c18 => ?_) (fun c18 => ?_)
        · replace h := it_t c18 h
          refine g_mask [false, true, true, true, true, true, true, false] rfl ?_
          exact kx1 w7 w8 w9 w10 w11 (iter_r h hi1)
        · replace h := it_f c18 h
          refine g_aload_n (pc := 50) hC dX12_gaps_50 rfl ?_
          refine g_iload (pc := 51) hC dX12_gaps_51 rfl ?_
          obtain ⟨v19, hc, h⟩ := cp_e h
          refine g_callVi (pc := 53) (As := [.int w12]) (rest := []) hC (c_X12_hasGap l E w12 σ6 v19 hc) mi_X12_hasGap mv_X12_hasGap ob_55 rfl rfl lk_X12_360 rfl rfl (Nat.le_of_ble_eq_true rfl) ⟨by decide, by decide⟩ hab dX12_gaps_53 ?_
          have hJ188 : ∀ (v44 : Int32) (v45 : Int32) (v46 : Int32) (v47 : Int32) (v48 : Int32), J_X12_gaps_6 w12 v44 v45 v46 v47 v48 = some r1 → Gd l E K 0 0 o σ6 188 [some (.ref (E.2.1 55)), some (.int a1), some (.int v44), some (.int v45), some (.int v46), some (.int v47), some (.int v48), some (.int w12)] [] := by
            intro v44 v45 v46 v47 v48 h
            delta J_X12_gaps_6 at h
            obtain ⟨v49, ev49, h⟩ := lt_e h
            refine g_iinc (v := v49) (lv2 := [some (.ref (E.2.1 55)), some (.int a1), some (.int v44), some (.int v45), some (.int v46), some (.int v47), some (.int v48), some (.int v49)]) (pc := 188) hC dX12_gaps_188 rfl ev49 rfl (Or.inr rfl) (hN _ (by decide)) ?_
            refine g_goto (tgt := 41) (pc := 191) hC dX12_gaps_191 (by decide) ?_
            exact ih1 v44 v45 v46 v47 v48 v49 z1 (iter_l h hi1) kx1
          refine g_if_ne (tgt := 62) (pc := 56) hC dX12_gaps_56 (by decide) (fun c20 => ?_) (fun c20 => ?_)
          · replace h := it_f c20 h
            obtain ⟨v21, ev21, h⟩ := lt_e h
            refine g_iinc (v := v21) (lv2 := [some (.ref (E.2.1 55)), some (.int a1), some (.int v21), some (.int w8), some (.int w9), some (.int w10), some (.int w11), some (.int w12)]) (pc := 62) hC dX12_gaps_62 rfl ev21 rfl (Or.inr rfl) (hN _ (by decide)) ?_
            refine g_iload (pc := 65) hC dX12_gaps_65 rfl ?_
            refine g_aload_n (pc := 67) hC dX12_gaps_67 rfl ?_
            refine fg_X12_19_55 (pc := 68) hC dX12_gaps_68 ?_
            refine g_aload_n (pc := 71) hC dX12_gaps_71 rfl ?_
            refine fg_X12_107_55 (pc := 72) hC dX12_gaps_72 ?_
            refine g_iload (pc := 75) hC dX12_gaps_75 rfl ?_
            obtain ⟨v22, ev22, nv22, h⟩ := rd_e h
            refine g_iald (pc := 77) hC 88 (by decide) (ar_88 _ _ _) nv22 dX12_gaps_77 ?_
            refine g_top ev22 ?_
            obtain ⟨v23, ev23, nv23, h⟩ := rd_e h
            refine g_iald (pc := 78) hC 59 (by decide) (ar_59 _ _ _) nv23 dX12_gaps_78 ?_
            refine g_top ev23 ?_
            refine g_aload_n (pc := 79) hC dX12_gaps_79 rfl ?_
            refine fg_X12_19_55 (pc := 80) hC dX12_gaps_80 ?_
            refine g_aload_n (pc := 83) hC dX12_gaps_83 rfl ?_
            refine fg_X12_107_55 (pc := 84) hC dX12_gaps_84 ?_
            refine g_iload (pc := 87) hC dX12_gaps_87 rfl ?_
            refine g_iconst (pc := 89) hC ki_1 dX12_gaps_89 ?_
            refine g_iadd (pc := 90) hC dX12_gaps_90 ?_
            obtain ⟨v24, ev24, nv24, h⟩ := rd_e h
            refine g_iald (pc := 91) hC 88 (by decide) (ar_88 _ _ _) nv24 dX12_gaps_91 ?_
            refine g_top ev24 ?_
            obtain ⟨v25, ev25, nv25, h⟩ := rd_e h
            refine g_iald (pc := 92) hC 59 (by decide) (ar_59 _ _ _) nv25 dX12_gaps_92 ?_
            refine g_top ev25 ?_
            obtain ⟨v26, hc, h⟩ := cp_e h
            refine g_callSi (pc := 93) (As := [.int v23, .int v25]) (rest := [.int w9]) hC (c_X12_apart l E v23 v25 σ6 v26 hc) mi_X12_apart ms_X12_apart lk_X12_163 rfl rfl (Nat.le_of_ble_eq_true rfl) ⟨by decide, by decide⟩ hab dX12_gaps_93 ?_
            refine g_iadd (pc := 96) hC dX12_gaps_96 ?_
            obtain ⟨v27, ev27, h⟩ := lt_e h
            refine g_top ev27 ?_
            refine g_istore (lv2 := [some (.ref (E.2.1 55)), some (.int a1), some (.int v21), some (.int w8), some (.int v27), some (.int w10), some (.int w11), some (.int w12)]) (pc := 97) hC dX12_gaps_97 rfl (Or.inr rfl) (hN _ (by decide)) ?_
            refine g_iload_n (pc := 99) hC dX12_gaps_99 rfl ?_
            refine g_aload_n (pc := 100) hC dX12_gaps_100 rfl ?_
            refine g_iload (pc := 101) hC dX12_gaps_101 rfl ?_
            refine g_iconst (pc := 103) hC ki_1 dX12_gaps_103 ?_
            refine g_iadd (pc := 104) hC dX12_gaps_104 ?_
            obtain ⟨v28, hc, h⟩ := cp_e h
            refine g_callVi (pc := 105) (As := [.int (w12 + 1)]) (rest := [.int w8]) hC (c_X12_hasGap l E (w12 + 1) σ6 v28 hc) mi_X12_hasGap mv_X12_hasGap ob_55 rfl rfl lk_X12_360 rfl rfl (Nat.le_of_ble_eq_true rfl) ⟨by decide, by decide⟩ hab dX12_gaps_105 ?_
            have hJ132 : ∀ (v33 : Int32), J_X12_gaps_5 v21 v27 w8 w10 w11 w12 σ6 v33 = some r1 → Gd l E K 0 0 o σ6 132 [some (.ref (E.2.1 55)), some (.int a1), some (.int v21), none, some (.int v27), some (.int w10), some (.int w11), some (.int w12)] [.int v33, .int w8] := by
              intro v33 h
              delta J_X12_gaps_5 at h
              refine g_iadd (pc := 132) hC dX12_gaps_132 ?_
              obtain ⟨v34, ev34, h⟩ := lt_e h
              refine g_top ev34 ?_
              refine g_istore_n (lv2 := [some (.ref (E.2.1 55)), some (.int a1), some (.int v21), some (.int v34), some (.int v27), some (.int w10), some (.int w11), some (.int w12)]) (pc := 133) hC dX12_gaps_133 rfl (Or.inr rfl) (hN _ (by decide)) ?_
              refine g_aload_n (pc := 134) hC dX12_gaps_134 rfl ?_
              refine g_iload (pc := 135) hC dX12_gaps_135 rfl ?_
              obtain ⟨v35, hc, h⟩ := cp_e h
              refine g_callVi (pc := 137) (As := [.int w12]) (rest := []) hC (c_X12_gapOf l E w12 σ6 v35 hc) mi_X12_gapOf mv_X12_gapOf ob_55 rfl rfl lk_X12_363 rfl rfl (Nat.le_of_ble_eq_true rfl) ⟨by decide, by decide⟩ hab dX12_gaps_137 ?_
              refine g_iload (pc := 140) hC dX12_gaps_140 rfl ?_
              have hJ156 : ∀ (v38 : Int32), J_X12_gaps_4 v21 v27 v34 w11 w12 σ6 v38 = some r1 → Gd l E K 0 0 o σ6 156 [some (.ref (E.2.1 55)), some (.int a1), some (.int v21), some (.int v34), some (.int v27), none, some (.int w11), some (.int w12)] [.int v38] := by
                intro v38 h
                delta J_X12_gaps_4 at h
                refine g_istore (lv2 := [some (.ref (E.2.1 55)), some (.int a1), some (.int v21), some (.int v34), some (.int v27), some (.int v38), some (.int w11), some (.int w12)]) (pc := 156) hC dX12_gaps_156 rfl (Or.inr rfl) (hN _ (by decide)) ?_
                refine g_iload (pc := 158) hC dX12_gaps_158 rfl ?_
                refine g_iconst (pc := 160) hC ki_m1 dX12_gaps_160 ?_
                have hJ186 : ∀ (v43 : Int32), J_X12_gaps_3 v21 v27 v34 v38 w12 v43 = some r1 → Gd l E K 0 0 o σ6 186 [some (.ref (E.2.1 55)), some (.int a1), some (.int v21), some (.int v34), some (.int v27), some (.int v38), none, some (.int w12)] [.int v43] := by
                  intro v43 h
                  delta J_X12_gaps_3 at h
                  refine g_istore (lv2 := [some (.ref (E.2.1 55)), some (.int a1), some (.int v21), some (.int v34), some (.int v27), some (.int v38), some (.int v43), some (.int w12)]) (pc := 186) hC dX12_gaps_186 rfl (Or.inr rfl) (hN _ (by decide)) ?_
                  exact hJ188 v21 v34 v27 v38 v43 h
                have hJ175 : J_X12_gaps_2 v21 v27 v34 v38 w12 σ6 = some r1 → Gd l E K 0 0 o σ6 175 [some (.ref (E.2.1 55)), some (.int a1), some (.int v21), some (.int v34), some (.int v27), some (.int v38), none, some (.int w12)] [] := by
                  intro h
                  delta J_X12_gaps_2 at h
                  refine g_aload_n (pc := 175) hC dX12_gaps_175 rfl ?_
                  refine g_iload (pc := 176) hC dX12_gaps_176 rfl ?_
                  obtain ⟨v42, hc, h⟩ := cp_e h
                  refine g_callVi (pc := 178) (As := [.int w12]) (rest := []) hC (c_X12_gapOf l E w12 σ6 v42 hc) mi_X12_gapOf mv_X12_gapOf ob_55 rfl rfl lk_X12_363 rfl rfl (Nat.le_of_ble_eq_true rfl) ⟨by decide, by decide⟩ hab dX12_gaps_178 ?_
                  refine g_goto (tgt := 186) (pc := 181) hC dX12_gaps_181 (by decide) ?_
                  exact hJ186 v42 h
                refine g_icmp_eq (tgt := 175) (pc := 161) hC dX12_gaps_161 (by decide) (fun c39 => ?_) (fun c39 => ?_)
                · replace h := it_t c39 h
                  refine g_mask [true, true, true, true, true, true, false, true] rfl ?_
                  exact hJ175 h
                · replace h := it_f c39 h
                  refine g_aload_n (pc := 164) hC dX12_gaps_164 rfl ?_
                  refine g_iload (pc := 165) hC dX12_gaps_165 rfl ?_
                  obtain ⟨v40, hc, h⟩ := cp_e h
                  refine g_callVi (pc := 167) (As := [.int w12]) (rest := []) hC (c_X12_gapOf l E w12 σ6 v40 hc) mi_X12_gapOf mv_X12_gapOf ob_55 rfl rfl lk_X12_363 rfl rfl (Nat.le_of_ble_eq_true rfl) ⟨by decide, by decide⟩ hab dX12_gaps_167 ?_
                  refine g_iload (pc := 170) hC dX12_gaps_170 rfl ?_
                  refine g_icmp_ge (tgt := 184) (pc := 172) hC dX12_gaps_172 (by decide) (fun c41 => ?_) (fun c41 => ?_)
                  · replace h := it_t c41 h
                    refine g_iload (pc := 184) hC dX12_gaps_184 rfl ?_
                    refine g_mask [true, true, true, true, true, true, false, true] rfl ?_
                    exact hJ186 w11 h
                  · replace h := it_f c41 h
                    refine g_mask [true, true, true, true, true, true, false, true] rfl ?_
                    exact hJ175 h
              refine g_icmp_le (tgt := 154) (pc := 142) hC dX12_gaps_142 (by decide) (fun c36 => ?_) (fun c36 => ?_)
              · replace h := it_t c36 h
                refine g_iload (pc := 154) hC dX12_gaps_154 rfl ?_
                refine g_mask [true, true, true, true, true, false, true, true] rfl ?_
                exact hJ156 w10 h
              · replace h := it_f c36 h
                refine g_aload_n (pc := 145) hC dX12_gaps_145 rfl ?_
                refine g_iload (pc := 146) hC dX12_gaps_146 rfl ?_
                obtain ⟨v37, hc, h⟩ := cp_e h
                refine g_callVi (pc := 148) (As := [.int w12]) (rest := []) hC (c_X12_gapOf l E w12 σ6 v37 hc) mi_X12_gapOf mv_X12_gapOf ob_55 rfl rfl lk_X12_363 rfl rfl (Nat.le_of_ble_eq_true rfl) ⟨by decide, by decide⟩ hab dX12_gaps_148 ?_
                refine g_goto (tgt := 156) (pc := 151) hC dX12_gaps_151 (by decide) ?_
                refine g_mask [true, true, true, true, true, false, true, true] rfl ?_
                exact hJ156 v37 h
            refine g_if_eq (tgt := 131) (pc := 108) hC dX12_gaps_108 (by decide) (fun c29 => ?_) (fun c29 => ?_)
            · replace h := it_t c29 h
              refine g_iconst (pc := 131) hC ki_0 dX12_gaps_131 ?_
              refine g_mask [true, true, true, false, true, true, true, true] rfl ?_
              exact hJ132 0 h
            · replace h := it_f c29 h
              refine g_aload_n (pc := 111) hC dX12_gaps_111 rfl ?_
              refine g_iload (pc := 112) hC dX12_gaps_112 rfl ?_
              obtain ⟨v30, hc, h⟩ := cp_e h
              refine g_callVi (pc := 114) (As := [.int w12]) (rest := [.int w8]) hC (c_X12_gapOf l E w12 σ6 v30 hc) mi_X12_gapOf mv_X12_gapOf ob_55 rfl rfl lk_X12_363 rfl rfl (Nat.le_of_ble_eq_true rfl) ⟨by decide, by decide⟩ hab dX12_gaps_114 ?_
              refine g_aload_n (pc := 117) hC dX12_gaps_117 rfl ?_
              refine g_iload (pc := 118) hC dX12_gaps_118 rfl ?_
              refine g_iconst (pc := 120) hC ki_1 dX12_gaps_120 ?_
              refine g_iadd (pc := 121) hC dX12_gaps_121 ?_
              obtain ⟨v31, hc, h⟩ := cp_e h
              refine g_callVi (pc := 122) (As := [.int (w12 + 1)]) (rest := [.int v30, .int w8]) hC (c_X12_gapOf l E (w12 + 1) σ6 v31 hc) mi_X12_gapOf mv_X12_gapOf ob_55 rfl rfl lk_X12_363 rfl rfl (Nat.le_of_ble_eq_true rfl) ⟨by decide, by decide⟩ hab dX12_gaps_122 ?_
              obtain ⟨v32, hc, h⟩ := cp_e h
              refine g_callSi (pc := 125) (As := [.int v30, .int v31]) (rest := [.int w8]) hC (c_X12_apart l E v30 v31 σ6 v32 hc) mi_X12_apart ms_X12_apart lk_X12_163 rfl rfl (Nat.le_of_ble_eq_true rfl) ⟨by decide, by decide⟩ hab dX12_gaps_125 ?_
              refine g_goto (tgt := 132) (pc := 128) hC dX12_gaps_128 (by decide) ?_
              refine g_mask [true, true, true, false, true, true, true, true] rfl ?_
              exact hJ132 v32 h
          · replace h := it_t c20 h
            refine g_goto (tgt := 188) (pc := 59) hC dX12_gaps_59 (by decide) ?_
            exact hJ188 w7 w8 w9 w10 w11 h
    obtain ⟨z1, hz1, h⟩ := lp_e h
    refine hL1 FU 0 0 0 (-1) (-1) 0 z1 hz1 (fun v13 v14 v15 v16 v17 ez => ?_)
    replace h : C_X12_gaps_8 a1 σ6 v13 v14 v15 v16 v17 = some (r, σr) := by rw [ez] at h; exact h
    delta C_X12_gaps_8 at h
    refine g_iload_n (pc := 194) hC dX12_gaps_194 rfl ?_
    by_cases c50 : a1 = 0
    · replace h := it_t c50 h
      refine g_tabIn (tgt := 224) (off := 29) (pc := 195) hC dX12_gaps_195 (by rw [c50]; decide) (by rw [c50]; decide) (by rw [c50]; rfl) (by decide) ?_
      refine g_iload_n (pc := 224) hC dX12_gaps_224 rfl ?_
      exact g_ret (pc := 225) hC h hR dX12_gaps_225
    · replace h := it_f c50 h
      by_cases c51 : a1 = 1
      · replace h := it_t c51 h
        refine g_tabIn (tgt := 226) (off := 31) (pc := 195) hC dX12_gaps_195 (by rw [c51]; decide) (by rw [c51]; decide) (by rw [c51]; rfl) (by decide) ?_
        refine g_iload_n (pc := 226) hC dX12_gaps_226 rfl ?_
        exact g_ret (pc := 227) hC h hR dX12_gaps_227
      · replace h := it_f c51 h
        by_cases c52 : a1 = 2
        · replace h := it_t c52 h
          refine g_tabIn (tgt := 228) (off := 33) (pc := 195) hC dX12_gaps_195 (by rw [c52]; decide) (by rw [c52]; decide) (by rw [c52]; rfl) (by decide) ?_
          refine g_iload (pc := 228) hC dX12_gaps_228 rfl ?_
          exact g_ret (pc := 230) hC h hR dX12_gaps_230
        · replace h := it_f c52 h
          by_cases c53 : a1 = 3
          · replace h := it_t c53 h
            refine g_tabIn (tgt := 231) (off := 36) (pc := 195) hC dX12_gaps_195 (by rw [c53]; decide) (by rw [c53]; decide) (by rw [c53]; rfl) (by decide) ?_
            refine g_iload (pc := 231) hC dX12_gaps_231 rfl ?_
            exact g_ret (pc := 233) hC h hR dX12_gaps_233
          · replace h := it_f c53 h
            have q0 := sw_ne (n := 0) c50 rfl
            have q1 := sw_ne (n := 1) c51 rfl
            have q2 := sw_ne (n := 2) c52 rfl
            have q3 := sw_ne (n := 3) c53 rfl
            refine g_tabOut (tgt := 234) (pc := 195) hC dX12_gaps_195 (by omega) (by decide) ?_
            refine g_iload (pc := 234) hC dX12_gaps_234 rfl ?_
            exact g_ret (pc := 236) hC h hR dX12_gaps_236
  · replace h := it_t c5 h
    refine g_iconst (pc := 19) hC ki_0 dX12_gaps_19 ?_
    exact g_ret (pc := 20) hC h hR dX12_gaps_20
set_option maxRecDepth 20000 in
theorem c_X12_roughOf (l : Launch) (E : uE) (a1 : Int32) (σ : uS) (r : Int32) (h : F_X12_roughOf a1 σ = some r) : CtI l E yX12_roughOf cX12_roughOf 4 (some .int) 2 43 [.ref (E.2.1 55), .int a1] σ r σ := by
  refine enterI 2 [some (.ref (E.2.1 55)), some (.int a1), none, none] (by decide +kernel) rfl (Nat.le_of_ble_eq_true rfl) (fun o K hnL hC hab hR => ?_)
  have hC : Cx E K RX12 cX12_roughOf (some .int) 2 43 := hC
  have hN : ∀ k, k < 4 → k < K.2.2.2.2.2 := fun k hk => hnL ▸ hk
  delta F_X12_roughOf at h
  refine g_aload_n (pc := 0) hC dX12_roughOf_0 rfl ?_
  refine g_iload_n (pc := 1) hC dX12_roughOf_1 rfl ?_
  obtain ⟨v1, hc, h⟩ := cp_e h
  refine g_callVi (pc := 2) (As := [.int a1]) (rest := []) hC (c_X12_hasGap l E a1 σ v1 hc) mi_X12_hasGap mv_X12_hasGap ob_55 rfl rfl lk_X12_360 rfl rfl (Nat.le_of_ble_eq_true rfl) ⟨by decide, by decide⟩ hab dX12_roughOf_2 ?_
  refine g_if_ne (tgt := 10) (pc := 5) hC dX12_roughOf_5 (by decide) (fun c2 => ?_) (fun c2 => ?_)
  · replace h := it_f c2 h
    refine g_iconst (pc := 10) hC ki_0 dX12_roughOf_10 ?_
    refine g_istore_n (lv2 := [some (.ref (E.2.1 55)), some (.int a1), some (.int 0), none]) (pc := 11) hC dX12_roughOf_11 rfl (Or.inr rfl) (hN _ (by decide)) ?_
    refine g_iconst (pc := 12) hC ki_0 dX12_roughOf_12 ?_
    refine g_istore_n (lv2 := [some (.ref (E.2.1 55)), some (.int a1), some (.int 0), some (.int 0)]) (pc := 13) hC dX12_roughOf_13 rfl (Or.inr rfl) (hN _ (by decide)) ?_
    have hL1 : ∀ (n : Nat) (w3 : Int32) (w4 : Int32) (z1 : Int32), iter n (fun z => B_X12_roughOf_2 a1 σ z.1 z.2) (w3, w4) = some z1 → (∀ (v5 : Int32), z1 = v5 → Gd l E K 0 0 o σ 61 [none, none, some (.int v5), none] []) → Gd l E K 0 0 o σ 14 [some (.ref (E.2.1 55)), some (.int a1), some (.int w3), some (.int w4)] [] := by
      intro n
      induction n with
      | zero =>
        intro w3 w4 z1 hi
        exact (iter_0 hi).elim
      | succ n ih1 =>
        intro w3 w4 z1 hi1 kx1
        obtain ⟨r1, h, hi1⟩ := iter_s hi1
        replace h : B_X12_roughOf_2 a1 σ w3 w4 = some r1 := h
        delta B_X12_roughOf_2 at h
        refine g_iload_n (pc := 14) hC dX12_roughOf_14 rfl ?_
        refine g_aload_n (pc := 15) hC dX12_roughOf_15 rfl ?_
        refine g_iload_n (pc := 16) hC dX12_roughOf_16 rfl ?_
        obtain ⟨v6, hc, h⟩ := cp_e h
        refine g_callVi (pc := 17) (As := [.int a1]) (rest := [.int w4]) hC (c_X12_gapOf l E a1 σ v6 hc) mi_X12_gapOf mv_X12_gapOf ob_55 rfl rfl lk_X12_363 rfl rfl (Nat.le_of_ble_eq_true rfl) ⟨by decide, by decide⟩ hab dX12_roughOf_17 ?_
        refine g_icmp_ge (tgt := 61) (pc := 20) hC dX12_roughOf_20 (by decide) (fun c7 => ?_) (fun c7 => ?_)
        · replace h := it_t c7 h
          refine g_mask [false, false, true, false] rfl ?_
          exact kx1 w3 (iter_r h hi1)
        · replace h := it_f c7 h
          refine g_iload_n (pc := 23) hC dX12_roughOf_23 rfl ?_
          refine g_aload_n (pc := 24) hC dX12_roughOf_24 rfl ?_
          refine g_aload_n (pc := 25) hC dX12_roughOf_25 rfl ?_
          refine fg_X12_107_55 (pc := 26) hC dX12_roughOf_26 ?_
          refine g_iload_n (pc := 29) hC dX12_roughOf_29 rfl ?_
          obtain ⟨v8, ev8, nv8, h⟩ := rd_e h
          refine g_iald (pc := 30) hC 88 (by decide) (ar_88 _ _ _) nv8 dX12_roughOf_30 ?_
          refine g_top ev8 ?_
          refine g_iload_n (pc := 31) hC dX12_roughOf_31 rfl ?_
          refine g_iadd (pc := 32) hC dX12_roughOf_32 ?_
          obtain ⟨v9, hc, h⟩ := cp_e h
          refine g_callVi (pc := 33) (As := [.int (v8 + w4)]) (rest := [.int w3]) hC (c_X12_at l E (v8 + w4) σ v9 hc) mi_X12_at mv_X12_at ob_55 rfl rfl lk_X12_366 rfl rfl (Nat.le_of_ble_eq_true rfl) ⟨by decide, by decide⟩ hab dX12_roughOf_33 ?_
          refine g_aload_n (pc := 36) hC dX12_roughOf_36 rfl ?_
          refine g_aload_n (pc := 37) hC dX12_roughOf_37 rfl ?_
          refine fg_X12_107_55 (pc := 38) hC dX12_roughOf_38 ?_
          refine g_iload_n (pc := 41) hC dX12_roughOf_41 rfl ?_
          refine g_iconst (pc := 42) hC ki_1 dX12_roughOf_42 ?_
          refine g_iadd (pc := 43) hC dX12_roughOf_43 ?_
          obtain ⟨v10, ev10, nv10, h⟩ := rd_e h
          refine g_iald (pc := 44) hC 88 (by decide) (ar_88 _ _ _) nv10 dX12_roughOf_44 ?_
          refine g_top ev10 ?_
          refine g_iload_n (pc := 45) hC dX12_roughOf_45 rfl ?_
          refine g_iadd (pc := 46) hC dX12_roughOf_46 ?_
          obtain ⟨v11, hc, h⟩ := cp_e h
          refine g_callVi (pc := 47) (As := [.int (v10 + w4)]) (rest := [.int v9, .int w3]) hC (c_X12_at l E (v10 + w4) σ v11 hc) mi_X12_at mv_X12_at ob_55 rfl rfl lk_X12_366 rfl rfl (Nat.le_of_ble_eq_true rfl) ⟨by decide, by decide⟩ hab dX12_roughOf_47 ?_
          obtain ⟨v12, hc, h⟩ := cp_e h
          refine g_callSi (pc := 50) (As := [.int v9, .int v11]) (rest := [.int w3]) hC (c_X12_apart l E v9 v11 σ v12 hc) mi_X12_apart ms_X12_apart lk_X12_163 rfl rfl (Nat.le_of_ble_eq_true rfl) ⟨by decide, by decide⟩ hab dX12_roughOf_50 ?_
          refine g_iadd (pc := 53) hC dX12_roughOf_53 ?_
          obtain ⟨v13, ev13, h⟩ := lt_e h
          refine g_top ev13 ?_
          refine g_istore_n (lv2 := [some (.ref (E.2.1 55)), some (.int a1), some (.int v13), some (.int w4)]) (pc := 54) hC dX12_roughOf_54 rfl (Or.inr rfl) (hN _ (by decide)) ?_
          obtain ⟨v14, ev14, h⟩ := lt_e h
          refine g_iinc (v := v14) (lv2 := [some (.ref (E.2.1 55)), some (.int a1), some (.int v13), some (.int v14)]) (pc := 55) hC dX12_roughOf_55 rfl ev14 rfl (Or.inr rfl) (hN _ (by decide)) ?_
          refine g_goto (tgt := 14) (pc := 58) hC dX12_roughOf_58 (by decide) ?_
          exact ih1 v13 v14 z1 (iter_l h hi1) kx1
    obtain ⟨z1, hz1, h⟩ := lp_e h
    refine hL1 FU 0 0 z1 hz1 (fun v5 ez => ?_)
    replace h : C_X12_roughOf_3 v5 = some r := by rw [ez] at h; exact h
    delta C_X12_roughOf_3 at h
    refine g_iload_n (pc := 61) hC dX12_roughOf_61 rfl ?_
    exact g_retp (pc := 62) hC h hR dX12_roughOf_62
  · replace h := it_t c2 h
    refine g_iconst (pc := 8) hC ki_m1 dX12_roughOf_8 ?_
    exact g_retp (pc := 9) hC h hR dX12_roughOf_9
set_option maxRecDepth 20000 in
theorem c_X12_rough (l : Launch) (E : uE) (a1 : Int32) (σ : uS) (r : Int32) (σr : uS) (h : F_X12_rough a1 σ = some (r, σr)) : CtI l E yX12_rough cX12_rough 2 (some .int) 8 179 [.ref (E.2.1 55), .int a1] σ r σr := by
  refine enterI 0 [some (.ref (E.2.1 55)), some (.int a1)] (by decide +kernel) rfl (Nat.le_of_ble_eq_true rfl) (fun o K hnL hC hab hR => ?_)
  have hC : Cx E K RX12 cX12_rough (some .int) 8 179 := hC
  have hN : ∀ k, k < 2 → k < K.2.2.2.2.2 := fun k hk => hnL ▸ hk
  delta F_X12_rough at h
  refine g_aload_n (pc := 0) hC dX12_rough_0 rfl ?_
  refine g_iconst (pc := 1) hC ki_0 dX12_rough_1 ?_
  obtain ⟨σ1, eσ1, h⟩ := pf_e h
  refine fp_X12_119_55 (pc := 2) hC dX12_rough_2 eσ1 ?_
  refine g_aload_n (pc := 5) hC dX12_rough_5 rfl ?_
  obtain ⟨σ2, hc, h⟩ := cp_e h
  refine g_callVv (pc := 6) (As := []) (rest := []) hC (c_X12_laysMarks l E σ1 σ2 hc) mi_X12_laysMarks mv_X12_laysMarks ob_55 rfl rfl lk_X12_293 rfl rfl (Nat.le_of_ble_eq_true rfl) ⟨by decide, by decide⟩ hab dX12_rough_6 ?_
  refine g_aload_n (pc := 9) hC dX12_rough_9 rfl ?_
  refine g_iload_n (pc := 10) hC dX12_rough_10 rfl ?_
  refine g_iconst (pc := 11) hC ki_0 dX12_rough_11 ?_
  refine g_aload_n (pc := 12) hC dX12_rough_12 rfl ?_
  refine fg_X12_350_55 (pc := 13) hC dX12_rough_13 ?_
  refine g_iconst (pc := 16) hC ki_1 dX12_rough_16 ?_
  refine g_isub (pc := 17) hC dX12_rough_17 ?_
  obtain ⟨v3, hc, h⟩ := cp_e h
  refine g_callSi (pc := 18) (As := [.int a1, .int 0, .int ((σ2 55 49) - 1)]) (rest := [.ref (E.2.1 55)]) hC (c_X12_isIn l E a1 0 ((σ2 55 49) - 1) σ2 v3 hc) mi_X12_isIn ms_X12_isIn lk_X12_133 rfl rfl (Nat.le_of_ble_eq_true rfl) ⟨by decide, by decide⟩ hab dX12_rough_18 ?_
  refine g_iconst (pc := 21) hC ki_1 dX12_rough_21 ?_
  obtain ⟨v5, σ4, hc, h⟩ := cl_e h
  refine g_callVi (pc := 22) (As := [.int v3, .int 1]) (rest := []) hC (c_X12_right l E v3 1 σ2 v5 σ4 hc) mi_X12_right mv_X12_right ob_55 rfl rfl lk_X12_148 rfl rfl (Nat.le_of_ble_eq_true rfl) ⟨by decide, by decide⟩ hab dX12_rough_22 ?_
  have hJ37 : ∀ (v8 : Int32), J_X12_rough_1 σ4 v8 = some (r, σr) → Gd l E K 0 0 o σ4 37 [none, none] [.int v8] := by
    intro v8 h
    delta J_X12_rough_1 at h
    exact g_ret (pc := 37) hC h hR dX12_rough_37
  refine g_if_eq (tgt := 36) (pc := 25) hC dX12_rough_25 (by decide) (fun c6 => ?_) (fun c6 => ?_)
  · replace h := it_t c6 h
    refine g_iconst (pc := 36) hC ki_0 dX12_rough_36 ?_
    refine g_mask [false, false] rfl ?_
    exact hJ37 0 h
  · replace h := it_f c6 h
    refine g_aload_n (pc := 28) hC dX12_rough_28 rfl ?_
    refine g_iload_n (pc := 29) hC dX12_rough_29 rfl ?_
    obtain ⟨v7, hc, h⟩ := cp_e h
    refine g_callVi (pc := 30) (As := [.int a1]) (rest := []) hC (c_X12_roughOf l E a1 σ4 v7 hc) mi_X12_roughOf mv_X12_roughOf ob_55 rfl rfl lk_X12_369 rfl rfl (Nat.le_of_ble_eq_true rfl) ⟨by decide, by decide⟩ hab dX12_rough_30 ?_
    refine g_goto (tgt := 37) (pc := 33) hC dX12_rough_33 (by decide) ?_
    refine g_mask [false, false] rfl ?_
    exact hJ37 v7 h
set_option maxRecDepth 20000 in
theorem c_X12_roughest (l : Launch) (E : uE) (σ : uS) (r : Int32) (σr : uS) (h : F_X12_roughest σ = some (r, σr)) : CtI l E yX12_roughest cX12_roughest 3 (some .int) 8 179 [.ref (E.2.1 55)] σ r σr := by
  refine enterI 2 [some (.ref (E.2.1 55)), none, none] (by decide +kernel) rfl (Nat.le_of_ble_eq_true rfl) (fun o K hnL hC hab hR => ?_)
  have hC : Cx E K RX12 cX12_roughest (some .int) 8 179 := hC
  have hN : ∀ k, k < 3 → k < K.2.2.2.2.2 := fun k hk => hnL ▸ hk
  delta F_X12_roughest at h
  refine g_aload_n (pc := 0) hC dX12_roughest_0 rfl ?_
  refine g_iconst (pc := 1) hC ki_0 dX12_roughest_1 ?_
  obtain ⟨σ1, eσ1, h⟩ := pf_e h
  refine fp_X12_119_55 (pc := 2) hC dX12_roughest_2 eσ1 ?_
  refine g_aload_n (pc := 5) hC dX12_roughest_5 rfl ?_
  obtain ⟨σ2, hc, h⟩ := cp_e h
  refine g_callVv (pc := 6) (As := []) (rest := []) hC (c_X12_laysMarks l E σ1 σ2 hc) mi_X12_laysMarks mv_X12_laysMarks ob_55 rfl rfl lk_X12_293 rfl rfl (Nat.le_of_ble_eq_true rfl) ⟨by decide, by decide⟩ hab dX12_roughest_6 ?_
  refine g_iconst (pc := 9) hC ki_m1 dX12_roughest_9 ?_
  refine g_istore_n (lv2 := [some (.ref (E.2.1 55)), some (.int (-1)), none]) (pc := 10) hC dX12_roughest_10 rfl (Or.inr rfl) (hN _ (by decide)) ?_
  refine g_iconst (pc := 11) hC ki_0 dX12_roughest_11 ?_
  refine g_istore_n (lv2 := [some (.ref (E.2.1 55)), some (.int (-1)), some (.int 0)]) (pc := 12) hC dX12_roughest_12 rfl (Or.inr rfl) (hN _ (by decide)) ?_
  have hL1 : ∀ (n : Nat) (w3 : Int32) (w4 : Int32) (z1 : Int32), iter n (fun z => B_X12_roughest_4 σ2 z.1 z.2) (w3, w4) = some z1 → (∀ (v5 : Int32), z1 = v5 → Gd l E K 0 0 o σ2 56 [none, some (.int v5), none] []) → Gd l E K 0 0 o σ2 13 [some (.ref (E.2.1 55)), some (.int w3), some (.int w4)] [] := by
    intro n
    induction n with
    | zero =>
      intro w3 w4 z1 hi
      exact (iter_0 hi).elim
    | succ n ih1 =>
      intro w3 w4 z1 hi1 kx1
      obtain ⟨r1, h, hi1⟩ := iter_s hi1
      replace h : B_X12_roughest_4 σ2 w3 w4 = some r1 := h
      delta B_X12_roughest_4 at h
      refine g_iload_n (pc := 13) hC dX12_roughest_13 rfl ?_
      refine g_aload_n (pc := 14) hC dX12_roughest_14 rfl ?_
      refine fg_X12_350_55 (pc := 15) hC dX12_roughest_15 ?_
      refine g_icmp_ge (tgt := 56) (pc := 18) hC dX12_roughest_18 (by decide) (fun c6 => ?_) (fun c6 => ?_)
      · replace h := it_t c6 h
        refine g_mask [false, true, false] rfl ?_
        exact kx1 w3 (iter_r h hi1)
      · replace h := it_f c6 h
        refine g_aload_n (pc := 21) hC dX12_roughest_21 rfl ?_
        refine g_iload_n (pc := 22) hC dX12_roughest_22 rfl ?_
        obtain ⟨v7, hc, h⟩ := cp_e h
        refine g_callVi (pc := 23) (As := [.int w4]) (rest := []) hC (c_X12_roughOf l E w4 σ2 v7 hc) mi_X12_roughOf mv_X12_roughOf ob_55 rfl rfl lk_X12_369 rfl rfl (Nat.le_of_ble_eq_true rfl) ⟨by decide, by decide⟩ hab dX12_roughest_23 ?_
        refine g_iconst (pc := 26) hC ki_m1 dX12_roughest_26 ?_
        have hJ50 : ∀ (v13 : Int32), J_X12_roughest_3 w4 v13 = some r1 → Gd l E K 0 0 o σ2 50 [some (.ref (E.2.1 55)), some (.int v13), some (.int w4)] [] := by
          intro v13 h
          delta J_X12_roughest_3 at h
          obtain ⟨v14, ev14, h⟩ := lt_e h
          refine g_iinc (v := v14) (lv2 := [some (.ref (E.2.1 55)), some (.int v13), some (.int v14)]) (pc := 50) hC dX12_roughest_50 rfl ev14 rfl (Or.inr rfl) (hN _ (by decide)) ?_
          refine g_goto (tgt := 13) (pc := 53) hC dX12_roughest_53 (by decide) ?_
          exact ih1 v13 v14 z1 (iter_l h hi1) kx1
        refine g_icmp_eq (tgt := 50) (pc := 27) hC dX12_roughest_27 (by decide) (fun c8 => ?_) (fun c8 => ?_)
        · replace h := it_t c8 h
          exact hJ50 w3 h
        · replace h := it_f c8 h
          refine g_iload_n (pc := 30) hC dX12_roughest_30 rfl ?_
          refine g_iconst (pc := 31) hC ki_m1 dX12_roughest_31 ?_
          have hJ48 : J_X12_roughest_2 w4 = some r1 → Gd l E K 0 0 o σ2 48 [some (.ref (E.2.1 55)), none, some (.int w4)] [] := by
            intro h
            delta J_X12_roughest_2 at h
            refine g_iload_n (pc := 48) hC dX12_roughest_48 rfl ?_
            refine g_istore_n (lv2 := [some (.ref (E.2.1 55)), some (.int w4), some (.int w4)]) (pc := 49) hC dX12_roughest_49 rfl (Or.inr rfl) (hN _ (by decide)) ?_
            exact hJ50 w4 h
          refine g_icmp_eq (tgt := 48) (pc := 32) hC dX12_roughest_32 (by decide) (fun c9 => ?_) (fun c9 => ?_)
          · replace h := it_t c9 h
            refine g_mask [true, false, true] rfl ?_
            exact hJ48 h
          · replace h := it_f c9 h
            refine g_aload_n (pc := 35) hC dX12_roughest_35 rfl ?_
            refine g_iload_n (pc := 36) hC dX12_roughest_36 rfl ?_
            obtain ⟨v10, hc, h⟩ := cp_e h
            refine g_callVi (pc := 37) (As := [.int w4]) (rest := []) hC (c_X12_roughOf l E w4 σ2 v10 hc) mi_X12_roughOf mv_X12_roughOf ob_55 rfl rfl lk_X12_369 rfl rfl (Nat.le_of_ble_eq_true rfl) ⟨by decide, by decide⟩ hab dX12_roughest_37 ?_
            refine g_aload_n (pc := 40) hC dX12_roughest_40 rfl ?_
            refine g_iload_n (pc := 41) hC dX12_roughest_41 rfl ?_
            obtain ⟨v11, hc, h⟩ := cp_e h
            refine g_callVi (pc := 42) (As := [.int w3]) (rest := [.int v10]) hC (c_X12_roughOf l E w3 σ2 v11 hc) mi_X12_roughOf mv_X12_roughOf ob_55 rfl rfl lk_X12_369 rfl rfl (Nat.le_of_ble_eq_true rfl) ⟨by decide, by decide⟩ hab dX12_roughest_42 ?_
            refine g_icmp_le (tgt := 50) (pc := 45) hC dX12_roughest_45 (by decide) (fun c12 => ?_) (fun c12 => ?_)
            · replace h := it_t c12 h
              exact hJ50 w3 h
            · replace h := it_f c12 h
              refine g_mask [true, false, true] rfl ?_
              exact hJ48 h
  obtain ⟨z1, hz1, h⟩ := lp_e h
  refine hL1 FU (-1) 0 z1 hz1 (fun v5 ez => ?_)
  replace h : C_X12_roughest_5 σ2 v5 = some (r, σr) := by rw [ez] at h; exact h
  delta C_X12_roughest_5 at h
  refine g_iload_n (pc := 56) hC dX12_roughest_56 rfl ?_
  exact g_ret (pc := 57) hC h hR dX12_roughest_57
set_option maxRecDepth 20000 in
theorem c_X12_mean (l : Launch) (E : uE) (a1 : Int32) (σ : uS) (r : Int32) (σr : uS) (h : F_X12_mean a1 σ = some (r, σr)) : CtI l E yX12_mean cX12_mean 5 (some .int) 8 179 [.ref (E.2.1 55), .int a1] σ r σr := by
  refine enterI 3 [some (.ref (E.2.1 55)), some (.int a1), none, none, none] (by decide +kernel) rfl (Nat.le_of_ble_eq_true rfl) (fun o K hnL hC hab hR => ?_)
  have hC : Cx E K RX12 cX12_mean (some .int) 8 179 := hC
  have hN : ∀ k, k < 5 → k < K.2.2.2.2.2 := fun k hk => hnL ▸ hk
  delta F_X12_mean at h
  refine g_aload_n (pc := 0) hC dX12_mean_0 rfl ?_
  refine g_iconst (pc := 1) hC ki_0 dX12_mean_1 ?_
  obtain ⟨σ1, eσ1, h⟩ := pf_e h
  refine fp_X12_119_55 (pc := 2) hC dX12_mean_2 eσ1 ?_
  refine g_aload_n (pc := 5) hC dX12_mean_5 rfl ?_
  obtain ⟨σ2, hc, h⟩ := cp_e h
  refine g_callVv (pc := 6) (As := []) (rest := []) hC (c_X12_laysMarks l E σ1 σ2 hc) mi_X12_laysMarks mv_X12_laysMarks ob_55 rfl rfl lk_X12_293 rfl rfl (Nat.le_of_ble_eq_true rfl) ⟨by decide, by decide⟩ hab dX12_mean_6 ?_
  refine g_iconst (pc := 9) hC ki_0 dX12_mean_9 ?_
  refine g_istore_n (lv2 := [some (.ref (E.2.1 55)), some (.int a1), some (.int 0), none, none]) (pc := 10) hC dX12_mean_10 rfl (Or.inr rfl) (hN _ (by decide)) ?_
  refine g_iconst (pc := 11) hC ki_0 dX12_mean_11 ?_
  refine g_istore_n (lv2 := [some (.ref (E.2.1 55)), some (.int a1), some (.int 0), some (.int 0), none]) (pc := 12) hC dX12_mean_12 rfl (Or.inr rfl) (hN _ (by decide)) ?_
  refine g_iconst (pc := 13) hC ki_0 dX12_mean_13 ?_
  refine g_istore (lv2 := [some (.ref (E.2.1 55)), some (.int a1), some (.int 0), some (.int 0), some (.int 0)]) (pc := 14) hC dX12_mean_14 rfl (Or.inr rfl) (hN _ (by decide)) ?_
  have hL1 : ∀ (n : Nat) (w3 : Int32) (w4 : Int32) (w5 : Int32) (z1 : Int32 × Int32), iter n (fun z => B_X12_mean_3 σ2 z.1 z.2.1 z.2.2) (w3, w4, w5) = some z1 → (∀ (v6 : Int32) (v7 : Int32), z1 = (v6, v7) → Gd l E K 0 0 o σ2 70 [some (.ref (E.2.1 55)), some (.int a1), some (.int v6), some (.int v7), none] []) → Gd l E K 0 0 o σ2 16 [some (.ref (E.2.1 55)), some (.int a1), some (.int w3), some (.int w4), some (.int w5)] [] := by
    intro n
    induction n with
    | zero =>
      intro w3 w4 w5 z1 hi
      exact (iter_0 hi).elim
    | succ n ih1 =>
      intro w3 w4 w5 z1 hi1 kx1
      obtain ⟨r1, h, hi1⟩ := iter_s hi1
      replace h : B_X12_mean_3 σ2 w3 w4 w5 = some r1 := h
      delta B_X12_mean_3 at h
      refine g_iload (pc := 16) hC dX12_mean_16 rfl ?_
      refine g_aload_n (pc := 18) hC dX12_mean_18 rfl ?_
      refine fg_X12_350_55 (pc := 19) hC dX12_mean_19 ?_
      refine g_icmp_ge (tgt := 70) (pc := 22) hC dX12_mean_22 (by decide) (fun c8 => ?_) (fun c8 => ?_)
      · replace h := it_t c8 h
        refine g_mask [true, true, true, true, false] rfl ?_
        exact kx1 w3 w4 (iter_r h hi1)
      · replace h := it_f c8 h
        refine g_iload_n (pc := 25) hC dX12_mean_25 rfl ?_
        refine g_aload_n (pc := 26) hC dX12_mean_26 rfl ?_
        refine g_iload (pc := 27) hC dX12_mean_27 rfl ?_
        obtain ⟨v9, hc, h⟩ := cp_e h
        refine g_callVi (pc := 29) (As := [.int w5]) (rest := [.int w3]) hC (c_X12_hasGap l E w5 σ2 v9 hc) mi_X12_hasGap mv_X12_hasGap ob_55 rfl rfl lk_X12_360 rfl rfl (Nat.le_of_ble_eq_true rfl) ⟨by decide, by decide⟩ hab dX12_mean_29 ?_
        obtain ⟨v11, ev11, h⟩ := lt_e h
        have hJ40 : Gd l E K 0 0 o σ2 40 [some (.ref (E.2.1 55)), some (.int a1), none, some (.int w4), some (.int w5)] [.int v11, .int w3] := by
          refine g_iadd (pc := 40) hC dX12_mean_40 ?_
          obtain ⟨v12, ev12, h⟩ := lt_e h
          refine g_top ev12 ?_
          refine g_istore_n (lv2 := [some (.ref (E.2.1 55)), some (.int a1), some (.int v12), some (.int w4), some (.int w5)]) (pc := 41) hC dX12_mean_41 rfl (Or.inr rfl) (hN _ (by decide)) ?_
          refine g_iload_n (pc := 42) hC dX12_mean_42 rfl ?_
          refine g_aload_n (pc := 43) hC dX12_mean_43 rfl ?_
          refine g_iload (pc := 44) hC dX12_mean_44 rfl ?_
          obtain ⟨v13, hc, h⟩ := cp_e h
          refine g_callVi (pc := 46) (As := [.int w5]) (rest := [.int w4]) hC (c_X12_hasGap l E w5 σ2 v13 hc) mi_X12_hasGap mv_X12_hasGap ob_55 rfl rfl lk_X12_360 rfl rfl (Nat.le_of_ble_eq_true rfl) ⟨by decide, by decide⟩ hab dX12_mean_46 ?_
          have hJ62 : ∀ (v16 : Int32), J_X12_mean_2 v12 w4 w5 v16 = some r1 → Gd l E K 0 0 o σ2 62 [some (.ref (E.2.1 55)), some (.int a1), some (.int v12), none, some (.int w5)] [.int v16, .int w4] := by
            intro v16 h
            delta J_X12_mean_2 at h
            refine g_iadd (pc := 62) hC dX12_mean_62 ?_
            obtain ⟨v17, ev17, h⟩ := lt_e h
            refine g_top ev17 ?_
            refine g_istore_n (lv2 := [some (.ref (E.2.1 55)), some (.int a1), some (.int v12), some (.int v17), some (.int w5)]) (pc := 63) hC dX12_mean_63 rfl (Or.inr rfl) (hN _ (by decide)) ?_
            obtain ⟨v18, ev18, h⟩ := lt_e h
            refine g_iinc (v := v18) (lv2 := [some (.ref (E.2.1 55)), some (.int a1), some (.int v12), some (.int v17), some (.int v18)]) (pc := 64) hC dX12_mean_64 rfl ev18 rfl (Or.inr rfl) (hN _ (by decide)) ?_
            refine g_goto (tgt := 16) (pc := 67) hC dX12_mean_67 (by decide) ?_
            exact ih1 v12 v17 v18 z1 (iter_l h hi1) kx1
          refine g_if_eq (tgt := 61) (pc := 49) hC dX12_mean_49 (by decide) (fun c14 => ?_) (fun c14 => ?_)
          · replace h := it_t c14 h
            refine g_iconst (pc := 61) hC ki_0 dX12_mean_61 ?_
            refine g_mask [true, true, true, false, true] rfl ?_
            exact hJ62 0 h
          · replace h := it_f c14 h
            refine g_aload_n (pc := 52) hC dX12_mean_52 rfl ?_
            refine g_iload (pc := 53) hC dX12_mean_53 rfl ?_
            obtain ⟨v15, hc, h⟩ := cp_e h
            refine g_callVi (pc := 55) (As := [.int w5]) (rest := [.int w4]) hC (c_X12_gapOf l E w5 σ2 v15 hc) mi_X12_gapOf mv_X12_gapOf ob_55 rfl rfl lk_X12_363 rfl rfl (Nat.le_of_ble_eq_true rfl) ⟨by decide, by decide⟩ hab dX12_mean_55 ?_
            refine g_goto (tgt := 62) (pc := 58) hC dX12_mean_58 (by decide) ?_
            refine g_mask [true, true, true, false, true] rfl ?_
            exact hJ62 v15 h
        refine g_if_eq (tgt := 39) (pc := 32) hC dX12_mean_32 (by decide) (fun c10 => ?_) (fun c10 => ?_)
        · refine g_iconst (pc := 39) hC ki_0 dX12_mean_39 ?_
          refine g_mask [true, true, false, true, true] rfl ?_
          exact g_top (iv_t c10 ev11) hJ40
        · refine g_iconst (pc := 35) hC ki_1 dX12_mean_35 ?_
          refine g_goto (tgt := 40) (pc := 36) hC dX12_mean_36 (by decide) ?_
          refine g_mask [true, true, false, true, true] rfl ?_
          exact g_top (iv_f c10 ev11) hJ40
  obtain ⟨z1, hz1, h⟩ := lp_e h
  refine hL1 FU 0 0 0 z1 hz1 (fun v6 v7 ez => ?_)
  replace h : C_X12_mean_5 a1 σ2 v6 v7 = some (r, σr) := by rw [ez] at h; exact h
  delta C_X12_mean_5 at h
  refine g_aload_n (pc := 70) hC dX12_mean_70 rfl ?_
  refine g_iload_n (pc := 71) hC dX12_mean_71 rfl ?_
  obtain ⟨v20, ev20, h⟩ := lt_e h
  have hJ80 : Gd l E K 0 0 o σ2 80 [none, some (.int a1), some (.int v6), some (.int v7), none] [.int v20, .ref (E.2.1 55)] := by
    refine g_iconst (pc := 80) hC ki_1 dX12_mean_80 ?_
    obtain ⟨v22, σ21, hc, h⟩ := cl_e h
    refine g_callVi (pc := 81) (As := [.int v20, .int 1]) (rest := []) hC (c_X12_right l E v20 1 σ2 v22 σ21 hc) mi_X12_right mv_X12_right ob_55 rfl rfl lk_X12_148 rfl rfl (Nat.le_of_ble_eq_true rfl) ⟨by decide, by decide⟩ hab dX12_mean_81 ?_
    refine g_if_ne (tgt := 89) (pc := 84) hC dX12_mean_84 (by decide) (fun c23 => ?_) (fun c23 => ?_)
    · replace h := it_f c23 h
      refine g_iload_n (pc := 89) hC dX12_mean_89 rfl ?_
      refine g_iload_n (pc := 90) hC dX12_mean_90 rfl ?_
      obtain ⟨v24, hc, h⟩ := cp_e h
      refine g_callSi (pc := 91) (As := [.int v7, .int v6]) (rest := []) hC (c_X12_divisor l E v7 v6 σ21 v24 hc) mi_X12_divisor ms_X12_divisor lk_X12_207 rfl rfl (Nat.le_of_ble_eq_true rfl) ⟨by decide, by decide⟩ hab dX12_mean_91 ?_
      refine g_istore (lv2 := [none, some (.int a1), some (.int v6), some (.int v7), some (.int v24)]) (pc := 94) hC dX12_mean_94 rfl (Or.inr rfl) (hN _ (by decide)) ?_
      refine g_iload_n (pc := 96) hC dX12_mean_96 rfl ?_
      have hJ111 : ∀ (v28 : Int32), J_X12_mean_4 σ21 v28 = some (r, σr) → Gd l E K 0 0 o σ21 111 [none, none, none, none, none] [.int v28] := by
        intro v28 h
        delta J_X12_mean_4 at h
        exact g_ret (pc := 111) hC h hR dX12_mean_111
      refine g_if_eq (tgt := 107) (pc := 97) hC dX12_mean_97 (by decide) (fun c25 => ?_) (fun c25 => ?_)
      · replace h := it_t c25 h
        refine g_iload_n (pc := 107) hC dX12_mean_107 rfl ?_
        refine g_iload (pc := 108) hC dX12_mean_108 rfl ?_
        obtain ⟨v26, ev26, nv26, h⟩ := dv_e h
        refine g_idiv (pc := 110) hC nv26 dX12_mean_110 ?_
        refine g_top ev26 ?_
        refine g_mask [false, false, false, false, false] rfl ?_
        exact hJ111 v26 h
      · replace h := it_f c25 h
        refine g_iload_n (pc := 100) hC dX12_mean_100 rfl ?_
        refine g_iload (pc := 101) hC dX12_mean_101 rfl ?_
        obtain ⟨v27, ev27, nv27, h⟩ := dv_e h
        refine g_idiv (pc := 103) hC nv27 dX12_mean_103 ?_
        refine g_top ev27 ?_
        refine g_goto (tgt := 111) (pc := 104) hC dX12_mean_104 (by decide) ?_
        refine g_mask [false, false, false, false, false] rfl ?_
        exact hJ111 v27 h
    · replace h := it_t c23 h
      refine g_iconst (pc := 87) hC ki_0 dX12_mean_87 ?_
      exact g_ret (pc := 88) hC h hR dX12_mean_88
  refine g_if_le (tgt := 79) (pc := 72) hC dX12_mean_72 (by decide) (fun c19 => ?_) (fun c19 => ?_)
  · refine g_iconst (pc := 79) hC ki_0 dX12_mean_79 ?_
    refine g_mask [false, true, true, true, false] rfl ?_
    exact g_top (iv_t c19 ev20) hJ80
  · refine g_iconst (pc := 75) hC ki_1 dX12_mean_75 ?_
    refine g_goto (tgt := 80) (pc := 76) hC dX12_mean_76 (by decide) ?_
    refine g_mask [false, true, true, true, false] rfl ?_
    exact g_top (iv_f c19 ev20) hJ80
set_option maxRecDepth 20000 in
theorem c_X12_graspOf (l : Launch) (E : uE) (a1 : Int32) (σ : uS) (r : Int32) (h : F_X12_graspOf a1 σ = some r) : CtI l E yX12_graspOf cX12_graspOf 3 (some .int) 3 67 [.ref (E.2.1 55), .int a1] σ r σ := by
  refine enterI 1 [some (.ref (E.2.1 55)), some (.int a1), none] (by decide +kernel) rfl (Nat.le_of_ble_eq_true rfl) (fun o K hnL hC hab hR => ?_)
  have hC : Cx E K RX12 cX12_graspOf (some .int) 3 67 := hC
  have hN : ∀ k, k < 3 → k < K.2.2.2.2.2 := fun k hk => hnL ▸ hk
  delta F_X12_graspOf at h
  refine g_aload_n (pc := 0) hC dX12_graspOf_0 rfl ?_
  refine g_iload_n (pc := 1) hC dX12_graspOf_1 rfl ?_
  obtain ⟨v1, hc, h⟩ := cp_e h
  refine g_callVi (pc := 2) (As := [.int a1]) (rest := []) hC (c_X12_hasGap l E a1 σ v1 hc) mi_X12_hasGap mv_X12_hasGap ob_55 rfl rfl lk_X12_360 rfl rfl (Nat.le_of_ble_eq_true rfl) ⟨by decide, by decide⟩ hab dX12_graspOf_2 ?_
  refine g_if_eq (tgt := 14) (pc := 5) hC dX12_graspOf_5 (by decide) (fun c2 => ?_) (fun c2 => ?_)
  · replace h := it_t c2 h
    refine g_iload_n (pc := 14) hC dX12_graspOf_14 rfl ?_
    refine g_aload_n (pc := 15) hC dX12_graspOf_15 rfl ?_
    refine fg_X12_113_55 (pc := 16) hC dX12_graspOf_16 ?_
    refine g_aload_n (pc := 19) hC dX12_graspOf_19 rfl ?_
    refine fg_X12_110_55 (pc := 20) hC dX12_graspOf_20 ?_
    refine g_iload_n (pc := 23) hC dX12_graspOf_23 rfl ?_
    obtain ⟨v3, ev3, nv3, h⟩ := rd_e h
    refine g_iald (pc := 24) hC 89 (by decide) (ar_89 _ _ _) nv3 dX12_graspOf_24 ?_
    refine g_top ev3 ?_
    obtain ⟨v4, ev4, nv4, h⟩ := rd_e h
    refine g_iald (pc := 25) hC 90 (by decide) (ar_90 _ _ _) nv4 dX12_graspOf_25 ?_
    refine g_top ev4 ?_
    obtain ⟨v6, ev6, h⟩ := lt_e h
    have hJ34 : Gd l E K 0 0 o σ 34 [some (.ref (E.2.1 55)), some (.int a1), none] [.int v6] := by
      refine g_istore_n (lv2 := [some (.ref (E.2.1 55)), some (.int a1), some (.int v6)]) (pc := 34) hC dX12_graspOf_34 rfl (Or.inr rfl) (hN _ (by decide)) ?_
      refine g_iload_n (pc := 35) hC dX12_graspOf_35 rfl ?_
      have hJ65 : ∀ (v12 : Int32), J_X12_graspOf_1 v12 = some r → Gd l E K 0 0 o σ 65 [none, none, none] [.int v12] := by
        intro v12 h
        delta J_X12_graspOf_1 at h
        exact g_retp (pc := 65) hC h hR dX12_graspOf_65
      refine g_if_eq (tgt := 49) (pc := 36) hC dX12_graspOf_36 (by decide) (fun c7 => ?_) (fun c7 => ?_)
      · replace h := it_t c7 h
        refine g_aload_n (pc := 49) hC dX12_graspOf_49 rfl ?_
        refine g_aload_n (pc := 50) hC dX12_graspOf_50 rfl ?_
        refine fg_X12_110_55 (pc := 51) hC dX12_graspOf_51 ?_
        refine g_iload_n (pc := 54) hC dX12_graspOf_54 rfl ?_
        obtain ⟨v8, ev8, nv8, h⟩ := rd_e h
        refine g_iald (pc := 55) hC 89 (by decide) (ar_89 _ _ _) nv8 dX12_graspOf_55 ?_
        refine g_top ev8 ?_
        refine g_aload_n (pc := 56) hC dX12_graspOf_56 rfl ?_
        refine fg_X12_107_55 (pc := 57) hC dX12_graspOf_57 ?_
        refine g_iload_n (pc := 60) hC dX12_graspOf_60 rfl ?_
        obtain ⟨v9, ev9, nv9, h⟩ := rd_e h
        refine g_iald (pc := 61) hC 88 (by decide) (ar_88 _ _ _) nv9 dX12_graspOf_61 ?_
        refine g_top ev9 ?_
        obtain ⟨v10, hc, h⟩ := cp_e h
        refine g_callVi (pc := 62) (As := [.int v8, .int v9]) (rest := []) hC (c_X12_periodAt l E v8 v9 σ v10 hc) mi_X12_periodAt mv_X12_periodAt ob_55 rfl rfl lk_X12_344 rfl rfl (Nat.le_of_ble_eq_true rfl) ⟨by decide, by decide⟩ hab dX12_graspOf_62 ?_
        refine g_mask [false, false, false] rfl ?_
        exact hJ65 v10 h
      · replace h := it_f c7 h
        refine g_aload_n (pc := 39) hC dX12_graspOf_39 rfl ?_
        refine g_iload_n (pc := 40) hC dX12_graspOf_40 rfl ?_
        refine g_iconst (pc := 41) hC ki_1 dX12_graspOf_41 ?_
        refine g_isub (pc := 42) hC dX12_graspOf_42 ?_
        obtain ⟨v11, hc, h⟩ := cp_e h
        refine g_callVi (pc := 43) (As := [.int (a1 - 1)]) (rest := []) hC (c_X12_gapOf l E (a1 - 1) σ v11 hc) mi_X12_gapOf mv_X12_gapOf ob_55 rfl rfl lk_X12_363 rfl rfl (Nat.le_of_ble_eq_true rfl) ⟨by decide, by decide⟩ hab dX12_graspOf_43 ?_
        refine g_goto (tgt := 65) (pc := 46) hC dX12_graspOf_46 (by decide) ?_
        refine g_mask [false, false, false] rfl ?_
        exact hJ65 v11 h
    refine g_icmp_le (tgt := 33) (pc := 26) hC dX12_graspOf_26 (by decide) (fun c5 => ?_) (fun c5 => ?_)
    · refine g_iconst (pc := 33) hC ki_0 dX12_graspOf_33 ?_
      exact g_top (iv_t c5 ev6) hJ34
    · refine g_iconst (pc := 29) hC ki_1 dX12_graspOf_29 ?_
      refine g_goto (tgt := 34) (pc := 30) hC dX12_graspOf_30 (by decide) ?_
      exact g_top (iv_f c5 ev6) hJ34
  · replace h := it_f c2 h
    refine g_aload_n (pc := 8) hC dX12_graspOf_8 rfl ?_
    refine g_iload_n (pc := 9) hC dX12_graspOf_9 rfl ?_
    obtain ⟨v13, hc, h⟩ := cp_e h
    refine g_callVi (pc := 10) (As := [.int a1]) (rest := []) hC (c_X12_gapOf l E a1 σ v13 hc) mi_X12_gapOf mv_X12_gapOf ob_55 rfl rfl lk_X12_363 rfl rfl (Nat.le_of_ble_eq_true rfl) ⟨by decide, by decide⟩ hab dX12_graspOf_10 ?_
    exact g_retp (pc := 13) hC h hR dX12_graspOf_13
set_option maxRecDepth 20000 in
theorem c_X12_markNear (l : Launch) (E : uE) (a1 : Int32) (a2 : Int32) (σ : uS) (r : Int32) (h : F_X12_markNear a1 a2 σ = some r) : CtI l E yX12_markNear cX12_markNear 5 (some .int) 1 21 [.ref (E.2.1 55), .int a1, .int a2] σ r σ := by
  refine enterI 2 [some (.ref (E.2.1 55)), some (.int a1), some (.int a2), none, none] (by decide +kernel) rfl (Nat.le_of_ble_eq_true rfl) (fun o K hnL hC hab hR => ?_)
  have hC : Cx E K RX12 cX12_markNear (some .int) 1 21 := hC
  have hN : ∀ k, k < 5 → k < K.2.2.2.2.2 := fun k hk => hnL ▸ hk
  delta F_X12_markNear at h
  refine g_aload_n (pc := 0) hC dX12_markNear_0 rfl ?_
  refine fg_X12_113_55 (pc := 1) hC dX12_markNear_1 ?_
  refine g_iload_n (pc := 4) hC dX12_markNear_4 rfl ?_
  obtain ⟨v1, ev1, nv1, h⟩ := rd_e h
  refine g_iald (pc := 5) hC 90 (by decide) (ar_90 _ _ _) nv1 dX12_markNear_5 ?_
  refine g_top ev1 ?_
  refine g_istore_n (lv2 := [some (.ref (E.2.1 55)), some (.int a1), some (.int a2), some (.int v1), none]) (pc := 6) hC dX12_markNear_6 rfl (Or.inr rfl) (hN _ (by decide)) ?_
  refine g_iload_n (pc := 7) hC dX12_markNear_7 rfl ?_
  refine g_istore (lv2 := [some (.ref (E.2.1 55)), some (.int a1), some (.int a2), some (.int v1), some (.int v1)]) (pc := 8) hC dX12_markNear_8 rfl (Or.inr rfl) (hN _ (by decide)) ?_
  have hL1 : ∀ (n : Nat) (w2 : Int32) (w3 : Int32) (z1 : Int32), iter n (fun z => B_X12_markNear_2 a1 a2 σ z.1 z.2) (w2, w3) = some z1 → (∀ (v4 : Int32), z1 = v4 → Gd l E K 0 0 o σ 60 [none, none, none, some (.int v4), none] []) → Gd l E K 0 0 o σ 10 [some (.ref (E.2.1 55)), some (.int a1), some (.int a2), some (.int w2), some (.int w3)] [] := by
    intro n
    induction n with
    | zero =>
      intro w2 w3 z1 hi
      exact (iter_0 hi).elim
    | succ n ih1 =>
      intro w2 w3 z1 hi1 kx1
      obtain ⟨r1, h, hi1⟩ := iter_s hi1
      replace h : B_X12_markNear_2 a1 a2 σ w2 w3 = some r1 := h
      delta B_X12_markNear_2 at h
      refine g_iload (pc := 10) hC dX12_markNear_10 rfl ?_
      refine g_aload_n (pc := 12) hC dX12_markNear_12 rfl ?_
      refine fg_X12_113_55 (pc := 13) hC dX12_markNear_13 ?_
      refine g_iload_n (pc := 16) hC dX12_markNear_16 rfl ?_
      refine g_iconst (pc := 17) hC ki_1 dX12_markNear_17 ?_
      refine g_iadd (pc := 18) hC dX12_markNear_18 ?_
      obtain ⟨v5, ev5, nv5, h⟩ := rd_e h
      refine g_iald (pc := 19) hC 90 (by decide) (ar_90 _ _ _) nv5 dX12_markNear_19 ?_
      refine g_top ev5 ?_
      refine g_icmp_ge (tgt := 60) (pc := 20) hC dX12_markNear_20 (by decide) (fun c6 => ?_) (fun c6 => ?_)
      · replace h := it_t c6 h
        refine g_mask [false, false, false, true, false] rfl ?_
        exact kx1 w2 (iter_r h hi1)
      · replace h := it_f c6 h
        refine g_aload_n (pc := 23) hC dX12_markNear_23 rfl ?_
        refine fg_X12_107_55 (pc := 24) hC dX12_markNear_24 ?_
        refine g_iload (pc := 27) hC dX12_markNear_27 rfl ?_
        obtain ⟨v7, ev7, nv7, h⟩ := rd_e h
        refine g_iald (pc := 29) hC 88 (by decide) (ar_88 _ _ _) nv7 dX12_markNear_29 ?_
        refine g_top ev7 ?_
        refine g_iload_n (pc := 30) hC dX12_markNear_30 rfl ?_
        obtain ⟨v8, hc, h⟩ := cp_e h
        refine g_callSi (pc := 31) (As := [.int v7, .int a2]) (rest := []) hC (c_X12_apart l E v7 a2 σ v8 hc) mi_X12_apart ms_X12_apart lk_X12_163 rfl rfl (Nat.le_of_ble_eq_true rfl) ⟨by decide, by decide⟩ hab dX12_markNear_31 ?_
        refine g_aload_n (pc := 34) hC dX12_markNear_34 rfl ?_
        refine fg_X12_107_55 (pc := 35) hC dX12_markNear_35 ?_
        refine g_iload_n (pc := 38) hC dX12_markNear_38 rfl ?_
        obtain ⟨v9, ev9, nv9, h⟩ := rd_e h
        refine g_iald (pc := 39) hC 88 (by decide) (ar_88 _ _ _) nv9 dX12_markNear_39 ?_
        refine g_top ev9 ?_
        refine g_iload_n (pc := 40) hC dX12_markNear_40 rfl ?_
        obtain ⟨v10, hc, h⟩ := cp_e h
        refine g_callSi (pc := 41) (As := [.int v9, .int a2]) (rest := [.int v8]) hC (c_X12_apart l E v9 a2 σ v10 hc) mi_X12_apart ms_X12_apart lk_X12_163 rfl rfl (Nat.le_of_ble_eq_true rfl) ⟨by decide, by decide⟩ hab dX12_markNear_41 ?_
        obtain ⟨v12, ev12, h⟩ := lt_e h
        have hJ53 : Gd l E K 0 0 o σ 53 [some (.ref (E.2.1 55)), some (.int a1), some (.int a2), none, some (.int w3)] [.int v12] := by
          refine g_istore_n (lv2 := [some (.ref (E.2.1 55)), some (.int a1), some (.int a2), some (.int v12), some (.int w3)]) (pc := 53) hC dX12_markNear_53 rfl (Or.inr rfl) (hN _ (by decide)) ?_
          obtain ⟨v13, ev13, h⟩ := lt_e h
          refine g_iinc (v := v13) (lv2 := [some (.ref (E.2.1 55)), some (.int a1), some (.int a2), some (.int v12), some (.int v13)]) (pc := 54) hC dX12_markNear_54 rfl ev13 rfl (Or.inr rfl) (hN _ (by decide)) ?_
          refine g_goto (tgt := 10) (pc := 57) hC dX12_markNear_57 (by decide) ?_
          exact ih1 v12 v13 z1 (iter_l h hi1) kx1
        refine g_icmp_ge (tgt := 52) (pc := 44) hC dX12_markNear_44 (by decide) (fun c11 => ?_) (fun c11 => ?_)
        · refine g_iload_n (pc := 52) hC dX12_markNear_52 rfl ?_
          refine g_mask [true, true, true, false, true] rfl ?_
          exact g_top (iv_t c11 ev12) hJ53
        · refine g_iload (pc := 47) hC dX12_markNear_47 rfl ?_
          refine g_goto (tgt := 53) (pc := 49) hC dX12_markNear_49 (by decide) ?_
          refine g_mask [true, true, true, false, true] rfl ?_
          exact g_top (iv_f c11 ev12) hJ53
  obtain ⟨z1, hz1, h⟩ := lp_e h
  refine hL1 FU v1 v1 z1 hz1 (fun v4 ez => ?_)
  replace h : C_X12_markNear_3 v4 = some r := by rw [ez] at h; exact h
  delta C_X12_markNear_3 at h
  refine g_iload_n (pc := 60) hC dX12_markNear_60 rfl ?_
  exact g_retp (pc := 61) hC h hR dX12_markNear_61
set_option maxRecDepth 20000 in
theorem c_X12_setAnew (l : Launch) (E : uE) (a1 : Int32) (a2 : Int32) (a3 : Int32) (a4 : Int32) (σ : uS) (r : Int32) (h : F_X12_setAnew a1 a2 a3 a4 σ = some r) : CtI l E yX12_setAnew cX12_setAnew 11 (some .int) 4 89 [.ref (E.2.1 55), .int a1, .int a2, .int a3, .int a4] σ r σ := by
  refine enterI 6 [some (.ref (E.2.1 55)), some (.int a1), some (.int a2), some (.int a3), some (.int a4), none, none, none, none, none, none] (by decide +kernel) rfl (Nat.le_of_ble_eq_true rfl) (fun o K hnL hC hab hR => ?_)
  have hC : Cx E K RX12 cX12_setAnew (some .int) 4 89 := hC
  have hN : ∀ k, k < 11 → k < K.2.2.2.2.2 := fun k hk => hnL ▸ hk
  delta F_X12_setAnew at h
  refine g_iconst (pc := 0) hC ki_0 dX12_setAnew_0 ?_
  refine g_istore (lv2 := [some (.ref (E.2.1 55)), some (.int a1), some (.int a2), some (.int a3), some (.int a4), some (.int 0), none, none, none, none, none]) (pc := 1) hC dX12_setAnew_1 rfl (Or.inr rfl) (hN _ (by decide)) ?_
  refine g_aload_n (pc := 3) hC dX12_setAnew_3 rfl ?_
  refine fg_X12_107_55 (pc := 4) hC dX12_setAnew_4 ?_
  refine g_aload_n (pc := 7) hC dX12_setAnew_7 rfl ?_
  refine fg_X12_113_55 (pc := 8) hC dX12_setAnew_8 ?_
  refine g_iload_n (pc := 11) hC dX12_setAnew_11 rfl ?_
  obtain ⟨v1, ev1, nv1, h⟩ := rd_e h
  refine g_iald (pc := 12) hC 90 (by decide) (ar_90 _ _ _) nv1 dX12_setAnew_12 ?_
  refine g_top ev1 ?_
  obtain ⟨v2, ev2, nv2, h⟩ := rd_e h
  refine g_iald (pc := 13) hC 88 (by decide) (ar_88 _ _ _) nv2 dX12_setAnew_13 ?_
  refine g_top ev2 ?_
  refine g_istore (lv2 := [some (.ref (E.2.1 55)), some (.int a1), some (.int a2), some (.int a3), some (.int a4), some (.int 0), some (.int v2), none, none, none, none]) (pc := 14) hC dX12_setAnew_14 rfl (Or.inr rfl) (hN _ (by decide)) ?_
  have hL1 : ∀ (n : Nat) (w3 : Int32) (w4 : Int32) (z1 : Int32), iter n (fun z => B_X12_setAnew_3 a1 a2 a3 a4 σ z.1 z.2) (w3, w4) = some z1 → (∀ (v5 : Int32), z1 = v5 → Gd l E K 0 0 o σ 119 [none, none, none, none, none, some (.int v5), none, none, none, none, none] []) → Gd l E K 0 0 o σ 16 [some (.ref (E.2.1 55)), some (.int a1), some (.int a2), some (.int a3), some (.int a4), some (.int w3), some (.int w4), none, none, none, none] [] := by
    intro n
    induction n with
    | zero =>
      intro w3 w4 z1 hi
      exact (iter_0 hi).elim
    | succ n ih1 =>
      intro w3 w4 z1 hi1 kx1
      obtain ⟨r1, h, hi1⟩ := iter_s hi1
      replace h : B_X12_setAnew_3 a1 a2 a3 a4 σ w3 w4 = some r1 := h
      delta B_X12_setAnew_3 at h
      refine g_iload (pc := 16) hC dX12_setAnew_16 rfl ?_
      refine g_aload_n (pc := 18) hC dX12_setAnew_18 rfl ?_
      refine g_iload_n (pc := 19) hC dX12_setAnew_19 rfl ?_
      obtain ⟨v6, hc, h⟩ := cp_e h
      refine g_callVi (pc := 20) (As := [.int a1]) (rest := [.int w4]) hC (c_X12_behindSpan l E a1 σ v6 hc) mi_X12_behindSpan mv_X12_behindSpan ob_55 rfl rfl lk_X12_302 rfl rfl (Nat.le_of_ble_eq_true rfl) ⟨by decide, by decide⟩ hab dX12_setAnew_20 ?_
      refine g_icmp_ge (tgt := 119) (pc := 23) hC dX12_setAnew_23 (by decide) (fun c7 => ?_) (fun c7 => ?_)
      · replace h := it_t c7 h
        refine g_mask [false, false, false, false, false, true, false, false, false, false, false] rfl ?_
        exact kx1 w3 (iter_r h hi1)
      · replace h := it_f c7 h
        refine g_aload_n (pc := 26) hC dX12_setAnew_26 rfl ?_
        refine g_iload_n (pc := 27) hC dX12_setAnew_27 rfl ?_
        refine g_iload (pc := 28) hC dX12_setAnew_28 rfl ?_
        obtain ⟨v8, hc, h⟩ := cp_e h
        refine g_callVi (pc := 30) (As := [.int a1, .int w4]) (rest := []) hC (c_X12_markNear l E a1 w4 σ v8 hc) mi_X12_markNear mv_X12_markNear ob_55 rfl rfl lk_X12_372 rfl rfl (Nat.le_of_ble_eq_true rfl) ⟨by decide, by decide⟩ hab dX12_setAnew_30 ?_
        refine g_istore (lv2 := [some (.ref (E.2.1 55)), some (.int a1), some (.int a2), some (.int a3), some (.int a4), some (.int w3), some (.int w4), some (.int v8), none, none, none]) (pc := 33) hC dX12_setAnew_33 rfl (Or.inr rfl) (hN _ (by decide)) ?_
        refine g_aload_n (pc := 35) hC dX12_setAnew_35 rfl ?_
        refine g_iload (pc := 36) hC dX12_setAnew_36 rfl ?_
        obtain ⟨v9, hc, h⟩ := cp_e h
        refine g_callVi (pc := 38) (As := [.int v8]) (rest := []) hC (c_X12_graspOf l E v8 σ v9 hc) mi_X12_graspOf mv_X12_graspOf ob_55 rfl rfl lk_X12_375 rfl rfl (Nat.le_of_ble_eq_true rfl) ⟨by decide, by decide⟩ hab dX12_setAnew_38 ?_
        refine g_istore (lv2 := [some (.ref (E.2.1 55)), some (.int a1), some (.int a2), some (.int a3), some (.int a4), some (.int w3), some (.int w4), some (.int v8), some (.int v9), none, none]) (pc := 41) hC dX12_setAnew_41 rfl (Or.inr rfl) (hN _ (by decide)) ?_
        refine g_iload_n (pc := 43) hC dX12_setAnew_43 rfl ?_
        refine g_iload (pc := 44) hC dX12_setAnew_44 rfl ?_
        obtain ⟨v10, hc, h⟩ := cp_e h
        refine g_callSi (pc := 46) (As := [.int a2, .int w4]) (rest := []) hC (c_X12_apart l E a2 w4 σ v10 hc) mi_X12_apart ms_X12_apart lk_X12_163 rfl rfl (Nat.le_of_ble_eq_true rfl) ⟨by decide, by decide⟩ hab dX12_setAnew_46 ?_
        refine g_istore (lv2 := [some (.ref (E.2.1 55)), some (.int a1), some (.int a2), some (.int a3), some (.int a4), some (.int w3), some (.int w4), some (.int v8), some (.int v9), some (.int v10), none]) (pc := 49) hC dX12_setAnew_49 rfl (Or.inr rfl) (hN _ (by decide)) ?_
        refine g_iload (pc := 51) hC dX12_setAnew_51 rfl ?_
        refine g_iload (pc := 53) hC dX12_setAnew_53 rfl ?_
        have hJ90 : ∀ (v16 : Int32), J_X12_setAnew_2 a3 a4 v9 w4 v16 = some r1 → Gd l E K 0 0 o σ 90 [some (.ref (E.2.1 55)), some (.int a1), some (.int a2), some (.int a3), some (.int a4), some (.int v16), some (.int w4), none, some (.int v9), none, none] [] := by
          intro v16 h
          delta J_X12_setAnew_2 at h
          refine g_iload (pc := 90) hC dX12_setAnew_90 rfl ?_
          refine g_iload_n (pc := 92) hC dX12_setAnew_92 rfl ?_
          refine g_imul (pc := 93) hC dX12_setAnew_93 ?_
          refine g_iload (pc := 94) hC dX12_setAnew_94 rfl ?_
          obtain ⟨v17, ev17, nv17, h⟩ := dv_e h
          refine g_idiv (pc := 96) hC nv17 dX12_setAnew_96 ?_
          refine g_top ev17 ?_
          refine g_istore (lv2 := [some (.ref (E.2.1 55)), some (.int a1), some (.int a2), some (.int a3), some (.int a4), some (.int v16), some (.int w4), none, some (.int v9), none, some (.int v17)]) (pc := 97) hC dX12_setAnew_97 rfl (Or.inr rfl) (hN _ (by decide)) ?_
          refine g_iload (pc := 99) hC dX12_setAnew_99 rfl ?_
          refine g_iload (pc := 101) hC dX12_setAnew_101 rfl ?_
          refine g_iconst (pc := 103) hC ki_1 dX12_setAnew_103 ?_
          obtain ⟨v19, ev19, h⟩ := lt_e h
          have hJ113 : Gd l E K 0 0 o σ 113 [some (.ref (E.2.1 55)), some (.int a1), some (.int a2), some (.int a3), some (.int a4), some (.int v16), none, none, none, none, none] [.int v19, .int w4] := by
            refine g_iadd (pc := 113) hC dX12_setAnew_113 ?_
            obtain ⟨v20, ev20, h⟩ := lt_e h
            refine g_top ev20 ?_
            refine g_istore (lv2 := [some (.ref (E.2.1 55)), some (.int a1), some (.int a2), some (.int a3), some (.int a4), some (.int v16), some (.int v20), none, none, none, none]) (pc := 114) hC dX12_setAnew_114 rfl (Or.inr rfl) (hN _ (by decide)) ?_
            refine g_goto (tgt := 16) (pc := 116) hC dX12_setAnew_116 (by decide) ?_
            exact ih1 v16 v20 z1 (iter_l h hi1) kx1
          refine g_icmp_ge (tgt := 111) (pc := 104) hC dX12_setAnew_104 (by decide) (fun c18 => ?_) (fun c18 => ?_)
          · refine g_iload (pc := 111) hC dX12_setAnew_111 rfl ?_
            refine g_mask [true, true, true, true, true, true, false, false, false, false, false] rfl ?_
            exact g_top (iv_t c18 ev19) hJ113
          · refine g_iconst (pc := 107) hC ki_1 dX12_setAnew_107 ?_
            refine g_goto (tgt := 113) (pc := 108) hC dX12_setAnew_108 (by decide) ?_
            refine g_mask [true, true, true, true, true, true, false, false, false, false, false] rfl ?_
            exact g_top (iv_f c18 ev19) hJ113
        refine g_icmp_ge (tgt := 90) (pc := 55) hC dX12_setAnew_55 (by decide) (fun c11 => ?_) (fun c11 => ?_)
        · replace h := it_t c11 h
          refine g_mask [true, true, true, true, true, true, true, false, true, false, false] rfl ?_
          exact hJ90 w3 h
        · replace h := it_f c11 h
          refine g_iload (pc := 58) hC dX12_setAnew_58 rfl ?_
          refine g_aload_n (pc := 60) hC dX12_setAnew_60 rfl ?_
          refine g_aload_n (pc := 61) hC dX12_setAnew_61 rfl ?_
          refine fg_X12_107_55 (pc := 62) hC dX12_setAnew_62 ?_
          refine g_iload (pc := 65) hC dX12_setAnew_65 rfl ?_
          obtain ⟨v12, ev12, nv12, h⟩ := rd_e h
          refine g_iald (pc := 67) hC 88 (by decide) (ar_88 _ _ _) nv12 dX12_setAnew_67 ?_
          refine g_top ev12 ?_
          refine g_iload_n (pc := 68) hC dX12_setAnew_68 rfl ?_
          refine g_iadd (pc := 69) hC dX12_setAnew_69 ?_
          refine g_iload (pc := 70) hC dX12_setAnew_70 rfl ?_
          refine g_isub (pc := 72) hC dX12_setAnew_72 ?_
          obtain ⟨v13, hc, h⟩ := cp_e h
          refine g_callVi (pc := 73) (As := [.int ((v12 + a2) - w4)]) (rest := [.int w3]) hC (c_X12_at l E ((v12 + a2) - w4) σ v13 hc) mi_X12_at mv_X12_at ob_55 rfl rfl lk_X12_366 rfl rfl (Nat.le_of_ble_eq_true rfl) ⟨by decide, by decide⟩ hab dX12_setAnew_73 ?_
          refine g_iload (pc := 76) hC dX12_setAnew_76 rfl ?_
          refine g_iload (pc := 78) hC dX12_setAnew_78 rfl ?_
          refine g_isub (pc := 80) hC dX12_setAnew_80 ?_
          refine g_imul (pc := 81) hC dX12_setAnew_81 ?_
          refine g_iload (pc := 82) hC dX12_setAnew_82 rfl ?_
          obtain ⟨v14, hc, h⟩ := cp_e h
          refine g_callSi (pc := 84) (As := [.int (v13 * (v9 - v10)), .int v9]) (rest := [.int w3]) hC (c_X12_down l E (v13 * (v9 - v10)) v9 σ v14 hc) mi_X12_down ms_X12_down lk_X12_378 rfl rfl (Nat.le_of_ble_eq_true rfl) ⟨by decide, by decide⟩ hab dX12_setAnew_84 ?_
          refine g_iadd (pc := 87) hC dX12_setAnew_87 ?_
          obtain ⟨v15, ev15, h⟩ := lt_e h
          refine g_top ev15 ?_
          refine g_istore (lv2 := [some (.ref (E.2.1 55)), some (.int a1), some (.int a2), some (.int a3), some (.int a4), some (.int v15), some (.int w4), some (.int v8), some (.int v9), some (.int v10), none]) (pc := 88) hC dX12_setAnew_88 rfl (Or.inr rfl) (hN _ (by decide)) ?_
          refine g_mask [true, true, true, true, true, true, true, false, true, false, false] rfl ?_
          exact hJ90 v15 h
  obtain ⟨z1, hz1, h⟩ := lp_e h
  refine hL1 FU 0 v2 z1 hz1 (fun v5 ez => ?_)
  replace h : C_X12_setAnew_4 v5 = some r := by rw [ez] at h; exact h
  delta C_X12_setAnew_4 at h
  refine g_iload (pc := 119) hC dX12_setAnew_119 rfl ?_
  exact g_retp (pc := 121) hC h hR dX12_setAnew_121
